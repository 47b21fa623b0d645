def b_X1_kindOf_20 (fu : Nat) (t : Nat → Int32) (t_kinds : Nat → Int32) (s0 : Int32) : Option (Int32 × Unit) :=
  some (s0, ())
def m_X1_kindOf (fu : Nat) (t : Nat → Int32) (t_kinds : Nat → Int32) (l1 : Int32) : Option (Int32 × Unit) :=
  (m_X5_isWithin fu l1 (0 : Int32) (7 : Int32)).bind fun o1 =>
  (if o1.1 = 0 then
    b_X1_kindOf_20 fu t t_kinds (-1 : Int32)
  else
    gd (inb l1 8) (
    b_X1_kindOf_20 fu t t_kinds (t_kinds l1.toNatClampNeg)))
abbrev rm_X1_kindOf : Room := ({ frames := 1, cells := 0, slots := 0, locals := 22 } : Room)
abbrev w0_X1_kindOf (cA : Nat → ClassId) (a0 : Nat) (a1 : Nat) (a2 : Nat) (a3 : Nat) (t : Nat → Int32) (t_kinds : Nat → Int32) : va_W := [(a0, e_X1 a1 a2 a3 t), (a1, eI cA 8 t_kinds)]
abbrev w1_X1_kindOf (cA : Nat → ClassId) (a0 : Nat) (a1 : Nat) (a2 : Nat) (a3 : Nat) (t : Nat → Int32) (t_kinds : Nat → Int32) (u : Unit) : va_W := [(a0, e_X1 a1 a2 a3 t), (a1, eI cA 8 t_kinds)]
theorem hd_X1_kindOf : yX1_kindOf.cls = RX1 ∧ yX1_kindOf.cls ≠ "java/lang/invoke/MethodHandle" ∧ yX1_kindOf.cls ≠ "java/lang/invoke/VarHandle" ∧ (parseMethodDescriptor yX1_kindOf.desc).map (fun d => d.parameters.length) = some 1 := by decide +kernel
set_option maxHeartbeats 40000000 in
set_option maxRecDepth 100000 in
theorem c_X1_kindOf (l : Launch) (D : va_G) (cA : Nat → ClassId) (sz : Nat) (fu : Nat) (a0 : Nat) (a1 : Nat) (a2 : Nat) (a3 : Nat) (t : Nat → Int32) (t_kinds : Nat → Int32) (l1 : Int32) (out : Int32 × Unit) (hm : m_X1_kindOf fu t t_kinds l1 = some out) : MI l yX1_kindOf (wU yX1_kindOf cX1_kindOf 2 ((Option.some Jvm.ClassFile.FieldType.int))) rm_X1_kindOf D cA sz [.ref a0, .int l1] (w0_X1_kindOf cA a0 a1 a2 a3 t t_kinds) out (w1_X1_kindOf cA a0 a1 a2 a3 t t_kinds) := by
  refine Met.ofW (cc := cX1_kindOf) (maxL := 2) (ret := (Option.some Jvm.ClassFile.FieldType.int)) (by decide) rfl ?_
  intro p e s m args below meth c s₁ B hml hv
  obtain ⟨hargs, hsz, hP, hK, hD0, hN⟩ := hv
  have hx := B.exec
  have hb := B.bytes
  have hr := B.returns
  have htg : ∀ w ∈ gw, w.before args s = true := fun w h => atoms_spec (ws := wU yX1_kindOf cX1_kindOf 2 ((Option.some Jvm.ClassFile.FieldType.int))) B.pre w (List.mem_cons_of_mem _ h)
  have hown : s.vm.findClass RX1 = some m.cls := findClass_of_methodNamed B.named
  have hlocks := B.notSynchronized
  subst hsz
  have hD := hD0.self (sz := s.heap.size)
  have hA : ∀ q : Nat, s.heap.size ≤ q → va_A (w0_X1_kindOf cA a0 a1 a2 a3 t t_kinds) s.heap.size q := fun q h => Or.inr h
  have hS : va_S (va_A (w0_X1_kindOf cA a0 a1 a2 a3 t t_kinds) s.heap.size) s.heap s.heap [] := va_S.rf
  generalize va_A (w0_X1_kindOf cA a0 a1 a2 a3 t t_kinds) s.heap.size = A at hA hD hS ⊢
  obtain ⟨Q, hQ⟩ : ∃ Q : State → Prop, Q = MQ below (va_Qi (fun (r : Int32) (u : Unit) => (r, u) = out) (pst0 D cA A (w1_X1_kindOf cA a0 a1 a2 a3 t t_kinds)) A) args s 0 0 A := ⟨_, rfl⟩
  refine (?_ : W p l e rm_X1_kindOf s m args below meth c s.heap [] 0 0 (MQ below (va_Qi (fun (r : Int32) (u : Unit) => (r, u) = out) (pst0 D cA A (w1_X1_kindOf cA a0 a1 a2 a3 t t_kinds)) A) args s 0 0 A) (entryFrame m args 2))
  rw [← hQ]
  have hP : va_P D CL [(a0, e_X1 a1 a2 a3 t), (a1, eI cA 8 t_kinds)] s.heap := hP
  have hD : va_D A [(a0, e_X1 a1 a2 a3 t), (a1, eI cA 8 t_kinds)] := hD
  have B_20 : ∀ (s0 : Int32) (H : Heap) (locs : List Loc) (ls : Array Slot), b_X1_kindOf_20 fu t t_kinds s0 = some out → va_P D CL [(a0, e_X1 a1 a2 a3 t), (a1, eI cA 8 t_kinds)] H → va_D A [(a0, e_X1 a1 a2 a3 t), (a1, eI cA 8 t_kinds)] → va_S A s.heap H locs → lv_has ls 2 [(0, .ref a0)] → W p l e rm_X1_kindOf s m args below meth c H locs 0 0 Q (F0 m 20 ls [.int s0]) := by
    intro  s0 H locs ls hm hP hD hS hl
    unfold b_X1_kindOf_20 at hm
    rw [hQ]
    exact W.iret (v := s0) hx hb hr (fun t9 ht hW => ⟨⟨s0, (), rfl, (Option.some.inj hm), by rw [ht]; exact hP, va_K.moved hW.alike hK, hD⟩, hS.F ht⟩) hS.2.2 dX1_kindOf_20
  unfold m_X1_kindOf at hm
  subst hargs
  have hl := lv_entry ([.ref a0, .int l1]) (n := 2) (Nat.le_of_ble_eq_true rfl)
  rw [lg_entry_eq]
  generalize (lg_sl ([.ref a0, .int l1]) ++ List.replicate (2 - (lg_sl ([.ref a0, .int l1])).length) Slot.unset).toArray = ls at hl ⊢
  have hl : lv_has ls 2 [(0, .ref a0), (1, .int l1)] := hl
  refine lv_iload_n hx hb dX1_kindOf_0 rfl (lv_at hl 1 rfl) ?_
  refine lv_iconst (v := (0 : Int32)) hx hb dX1_kindOf_1 (by decide) ?_
  refine lv_bipush (v := (7 : Int32)) hx hb dX1_kindOf_2 (by decide) ?_
  obtain ⟨o1, ho2, hm⟩ := bd_s hm
  refine xr_i (wr := [(a0, e_X1 a1 a2 a3 t), (a1, eI cA 8 t_kinds)]) (wn := [(a0, e_X1 a1 a2 a3 t), (a1, eI cA 8 t_kinds)]) (va_runSN (As := [.int l1, .int (0 : Int32), .int (7 : Int32)]) (rest := []) ⟨hx, hb, hml, hown, htg⟩ (c_X5_isWithin l D cA _ fu l1 (0 : Int32) (7 : Int32) o1 ho2) ⟨va_cnB 3 htg (gU q_2_9) rfl rfl rfl (hN _ q_2_106) (htg _ q_1_1) hd_X5_isWithin.2 ⟨Nat.le_of_ble_eq_true rfl, Nat.le_of_ble_eq_true rfl⟩, htg _ q_2_8, trivial⟩ (xpS hN hK hP hD [] rfl (by decide)) rfl rfl hl.1 rfl (lv_room (Nat.le_of_ble_eq_true rfl)) dX1_kindOf_4 ⟨Nat.zero_le _, Nat.zero_le _⟩) hP hD hS hA [] [0, 1] [0, 1] rfl rfl (by decide) (by decide) rfl (by decide) (fun H locs hP hD hS => ?_)
  refine lv_if_eq (tgt := 19) hx hb dX1_kindOf_7 (by decide) (fun c3 => ?_) (fun c3 => ?_)
  · have hm := it_t c3 hm
    refine lv_iconst (v := (-1 : Int32)) hx hb dX1_kindOf_19 (by decide) ?_
    exact B_20 _ _ _ _ hm hP hD hS (lv_sub hl [0] rfl)
  · have hm := it_f c3 hm
    refine lv_aload_n hx hb dX1_kindOf_10 rfl (lv_at hl 0 rfl) ?_
    refine va_get (D := D) (ci := 1) (v := .ref a1) (C := RX1) (T := TX1) (N := 12) hx hb htg inX1 hown hK hP 0 rfl rfl 9 (by decide) (htg _ q_1_60) (fun _ h9 => h9) rfl dX1_kindOf_11 ?_
    refine lv_iload_n hx hb dX1_kindOf_14 rfl (lv_at hl 1 rfl) ?_
    obtain ⟨hi4, hm⟩ := gd_s hm
    refine va_iald hx hb hK hP 1 0 rfl rfl hi4 dX1_kindOf_15 ?_
    refine lv_goto (tgt := 20) hx hb dX1_kindOf_16 (by decide) ?_
    exact B_20 _ _ _ _ hm hP hD hS (lv_sub hl [0] rfl)
def b_X1_pitchOf_20 (fu : Nat) (t : Nat → Int32) (t_pitches : Nat → Int32) (s0 : Int32) : Option (Int32 × Unit) :=
  some (s0, ())
def m_X1_pitchOf (fu : Nat) (t : Nat → Int32) (t_pitches : Nat → Int32) (l1 : Int32) : Option (Int32 × Unit) :=
  (m_X5_isWithin fu l1 (0 : Int32) (7 : Int32)).bind fun o1 =>
  (if o1.1 = 0 then
    b_X1_pitchOf_20 fu t t_pitches (-1 : Int32)
  else
    gd (inb l1 8) (
    b_X1_pitchOf_20 fu t t_pitches (t_pitches l1.toNatClampNeg)))
abbrev rm_X1_pitchOf : Room := ({ frames := 1, cells := 0, slots := 0, locals := 22 } : Room)
abbrev w0_X1_pitchOf (cA : Nat → ClassId) (a0 : Nat) (a1 : Nat) (a2 : Nat) (a3 : Nat) (t : Nat → Int32) (t_pitches : Nat → Int32) : va_W := [(a0, e_X1 a1 a2 a3 t), (a3, eI cA 8 t_pitches)]
abbrev w1_X1_pitchOf (cA : Nat → ClassId) (a0 : Nat) (a1 : Nat) (a2 : Nat) (a3 : Nat) (t : Nat → Int32) (t_pitches : Nat → Int32) (u : Unit) : va_W := [(a0, e_X1 a1 a2 a3 t), (a3, eI cA 8 t_pitches)]
theorem hd_X1_pitchOf : yX1_pitchOf.cls = RX1 ∧ yX1_pitchOf.cls ≠ "java/lang/invoke/MethodHandle" ∧ yX1_pitchOf.cls ≠ "java/lang/invoke/VarHandle" ∧ (parseMethodDescriptor yX1_pitchOf.desc).map (fun d => d.parameters.length) = some 1 := by decide +kernel
set_option maxHeartbeats 40000000 in
set_option maxRecDepth 100000 in
theorem c_X1_pitchOf (l : Launch) (D : va_G) (cA : Nat → ClassId) (sz : Nat) (fu : Nat) (a0 : Nat) (a1 : Nat) (a2 : Nat) (a3 : Nat) (t : Nat → Int32) (t_pitches : Nat → Int32) (l1 : Int32) (out : Int32 × Unit) (hm : m_X1_pitchOf fu t t_pitches l1 = some out) : MI l yX1_pitchOf (wU yX1_pitchOf cX1_pitchOf 2 ((Option.some Jvm.ClassFile.FieldType.int))) rm_X1_pitchOf D cA sz [.ref a0, .int l1] (w0_X1_pitchOf cA a0 a1 a2 a3 t t_pitches) out (w1_X1_pitchOf cA a0 a1 a2 a3 t t_pitches) := by
  refine Met.ofW (cc := cX1_pitchOf) (maxL := 2) (ret := (Option.some Jvm.ClassFile.FieldType.int)) (by decide) rfl ?_
  intro p e s m args below meth c s₁ B hml hv
  obtain ⟨hargs, hsz, hP, hK, hD0, hN⟩ := hv
  have hx := B.exec
  have hb := B.bytes
  have hr := B.returns
  have htg : ∀ w ∈ gw, w.before args s = true := fun w h => atoms_spec (ws := wU yX1_pitchOf cX1_pitchOf 2 ((Option.some Jvm.ClassFile.FieldType.int))) B.pre w (List.mem_cons_of_mem _ h)
  have hown : s.vm.findClass RX1 = some m.cls := findClass_of_methodNamed B.named
  have hlocks := B.notSynchronized
  subst hsz
  have hD := hD0.self (sz := s.heap.size)
  have hA : ∀ q : Nat, s.heap.size ≤ q → va_A (w0_X1_pitchOf cA a0 a1 a2 a3 t t_pitches) s.heap.size q := fun q h => Or.inr h
  have hS : va_S (va_A (w0_X1_pitchOf cA a0 a1 a2 a3 t t_pitches) s.heap.size) s.heap s.heap [] := va_S.rf
  generalize va_A (w0_X1_pitchOf cA a0 a1 a2 a3 t t_pitches) s.heap.size = A at hA hD hS ⊢
  obtain ⟨Q, hQ⟩ : ∃ Q : State → Prop, Q = MQ below (va_Qi (fun (r : Int32) (u : Unit) => (r, u) = out) (pst0 D cA A (w1_X1_pitchOf cA a0 a1 a2 a3 t t_pitches)) A) args s 0 0 A := ⟨_, rfl⟩
  refine (?_ : W p l e rm_X1_pitchOf s m args below meth c s.heap [] 0 0 (MQ below (va_Qi (fun (r : Int32) (u : Unit) => (r, u) = out) (pst0 D cA A (w1_X1_pitchOf cA a0 a1 a2 a3 t t_pitches)) A) args s 0 0 A) (entryFrame m args 2))
  rw [← hQ]
  have hP : va_P D CL [(a0, e_X1 a1 a2 a3 t), (a3, eI cA 8 t_pitches)] s.heap := hP
  have hD : va_D A [(a0, e_X1 a1 a2 a3 t), (a3, eI cA 8 t_pitches)] := hD
  have B_20 : ∀ (s0 : Int32) (H : Heap) (locs : List Loc) (ls : Array Slot), b_X1_pitchOf_20 fu t t_pitches s0 = some out → va_P D CL [(a0, e_X1 a1 a2 a3 t), (a3, eI cA 8 t_pitches)] H → va_D A [(a0, e_X1 a1 a2 a3 t), (a3, eI cA 8 t_pitches)] → va_S A s.heap H locs → lv_has ls 2 [(0, .ref a0)] → W p l e rm_X1_pitchOf s m args below meth c H locs 0 0 Q (F0 m 20 ls [.int s0]) := by
    intro  s0 H locs ls hm hP hD hS hl
    unfold b_X1_pitchOf_20 at hm
    rw [hQ]
    exact W.iret (v := s0) hx hb hr (fun t9 ht hW => ⟨⟨s0, (), rfl, (Option.some.inj hm), by rw [ht]; exact hP, va_K.moved hW.alike hK, hD⟩, hS.F ht⟩) hS.2.2 dX1_pitchOf_20
  unfold m_X1_pitchOf at hm
  subst hargs
  have hl := lv_entry ([.ref a0, .int l1]) (n := 2) (Nat.le_of_ble_eq_true rfl)
  rw [lg_entry_eq]
  generalize (lg_sl ([.ref a0, .int l1]) ++ List.replicate (2 - (lg_sl ([.ref a0, .int l1])).length) Slot.unset).toArray = ls at hl ⊢
  have hl : lv_has ls 2 [(0, .ref a0), (1, .int l1)] := hl
  refine lv_iload_n hx hb dX1_pitchOf_0 rfl (lv_at hl 1 rfl) ?_
  refine lv_iconst (v := (0 : Int32)) hx hb dX1_pitchOf_1 (by decide) ?_
  refine lv_bipush (v := (7 : Int32)) hx hb dX1_pitchOf_2 (by decide) ?_
  obtain ⟨o1, ho2, hm⟩ := bd_s hm
  refine xr_i (wr := [(a0, e_X1 a1 a2 a3 t), (a3, eI cA 8 t_pitches)]) (wn := [(a0, e_X1 a1 a2 a3 t), (a3, eI cA 8 t_pitches)]) (va_runSN (As := [.int l1, .int (0 : Int32), .int (7 : Int32)]) (rest := []) ⟨hx, hb, hml, hown, htg⟩ (c_X5_isWithin l D cA _ fu l1 (0 : Int32) (7 : Int32) o1 ho2) ⟨va_cnB 3 htg (gU q_2_9) rfl rfl rfl (hN _ q_2_106) (htg _ q_1_1) hd_X5_isWithin.2 ⟨Nat.le_of_ble_eq_true rfl, Nat.le_of_ble_eq_true rfl⟩, htg _ q_2_8, trivial⟩ (xpS hN hK hP hD [] rfl (by decide)) rfl rfl hl.1 rfl (lv_room (Nat.le_of_ble_eq_true rfl)) dX1_pitchOf_4 ⟨Nat.zero_le _, Nat.zero_le _⟩) hP hD hS hA [] [0, 1] [0, 1] rfl rfl (by decide) (by decide) rfl (by decide) (fun H locs hP hD hS => ?_)
  refine lv_if_eq (tgt := 19) hx hb dX1_pitchOf_7 (by decide) (fun c3 => ?_) (fun c3 => ?_)
  · have hm := it_t c3 hm
    refine lv_iconst (v := (-1 : Int32)) hx hb dX1_pitchOf_19 (by decide) ?_
    exact B_20 _ _ _ _ hm hP hD hS (lv_sub hl [0] rfl)
  · have hm := it_f c3 hm
    refine lv_aload_n hx hb dX1_pitchOf_10 rfl (lv_at hl 0 rfl) ?_
    refine va_get (D := D) (ci := 1) (v := .ref a3) (C := RX1) (T := TX1) (N := 12) hx hb htg inX1 hown hK hP 0 rfl rfl 11 (by decide) (htg _ q_1_62) (fun _ h9 => h9) rfl dX1_pitchOf_11 ?_
    refine lv_iload_n hx hb dX1_pitchOf_14 rfl (lv_at hl 1 rfl) ?_
    obtain ⟨hi4, hm⟩ := gd_s hm
    refine va_iald hx hb hK hP 1 0 rfl rfl hi4 dX1_pitchOf_15 ?_
    refine lv_goto (tgt := 20) hx hb dX1_pitchOf_16 (by decide) ?_
    exact B_20 _ _ _ _ hm hP hD hS (lv_sub hl [0] rfl)
def b_X1_hasRoom_14 (fu : Nat) (t : Nat → Int32) (s0 : Int32) : Option (Int32 × Unit) :=
  gd (bz s0) (some (s0, ()))
def m_X1_hasRoom (fu : Nat) (t : Nat → Int32) : Option (Int32 × Unit) :=
  (if (8 : Int32) ≤ t 8 then
    b_X1_hasRoom_14 fu t (0 : Int32)
  else
    b_X1_hasRoom_14 fu t (1 : Int32))
abbrev rm_X1_hasRoom : Room := ({ frames := 0, cells := 0, slots := 0, locals := 0 } : Room)
abbrev w0_X1_hasRoom (cA : Nat → ClassId) (a0 : Nat) (a1 : Nat) (a2 : Nat) (a3 : Nat) (t : Nat → Int32) : va_W := [(a0, e_X1 a1 a2 a3 t)]
abbrev w1_X1_hasRoom (cA : Nat → ClassId) (a0 : Nat) (a1 : Nat) (a2 : Nat) (a3 : Nat) (t : Nat → Int32) (u : Unit) : va_W := [(a0, e_X1 a1 a2 a3 t)]
theorem hd_X1_hasRoom : yX1_hasRoom.cls = RX1 ∧ yX1_hasRoom.cls ≠ "java/lang/invoke/MethodHandle" ∧ yX1_hasRoom.cls ≠ "java/lang/invoke/VarHandle" ∧ (parseMethodDescriptor yX1_hasRoom.desc).map (fun d => d.parameters.length) = some 0 := by decide +kernel
set_option maxHeartbeats 40000000 in
set_option maxRecDepth 100000 in
theorem c_X1_hasRoom (l : Launch) (D : va_G) (cA : Nat → ClassId) (sz : Nat) (fu : Nat) (a0 : Nat) (a1 : Nat) (a2 : Nat) (a3 : Nat) (t : Nat → Int32) (out : Int32 × Unit) (hm : m_X1_hasRoom fu t = some out) : MI l yX1_hasRoom (wU yX1_hasRoom cX1_hasRoom 1 ((Option.some Jvm.ClassFile.FieldType.boolean))) rm_X1_hasRoom D cA sz [.ref a0] (w0_X1_hasRoom cA a0 a1 a2 a3 t) out (w1_X1_hasRoom cA a0 a1 a2 a3 t) := by
  refine Met.ofW (cc := cX1_hasRoom) (maxL := 1) (ret := (Option.some Jvm.ClassFile.FieldType.boolean)) (by decide) rfl ?_
  intro p e s m args below meth c s₁ B hml hv
  obtain ⟨hargs, hsz, hP, hK, hD0, hN⟩ := hv
  have hx := B.exec
  have hb := B.bytes
  have hr := B.returns
  have htg : ∀ w ∈ gw, w.before args s = true := fun w h => atoms_spec (ws := wU yX1_hasRoom cX1_hasRoom 1 ((Option.some Jvm.ClassFile.FieldType.boolean))) B.pre w (List.mem_cons_of_mem _ h)
  have hown : s.vm.findClass RX1 = some m.cls := findClass_of_methodNamed B.named
  have hlocks := B.notSynchronized
  subst hsz
  have hD := hD0.self (sz := s.heap.size)
  have hA : ∀ q : Nat, s.heap.size ≤ q → va_A (w0_X1_hasRoom cA a0 a1 a2 a3 t) s.heap.size q := fun q h => Or.inr h
  have hS : va_S (va_A (w0_X1_hasRoom cA a0 a1 a2 a3 t) s.heap.size) s.heap s.heap [] := va_S.rf
  generalize va_A (w0_X1_hasRoom cA a0 a1 a2 a3 t) s.heap.size = A at hA hD hS ⊢
  obtain ⟨Q, hQ⟩ : ∃ Q : State → Prop, Q = MQ below (va_Qi (fun (r : Int32) (u : Unit) => (r, u) = out) (pst0 D cA A (w1_X1_hasRoom cA a0 a1 a2 a3 t)) A) args s 0 0 A := ⟨_, rfl⟩
  refine (?_ : W p l e rm_X1_hasRoom s m args below meth c s.heap [] 0 0 (MQ below (va_Qi (fun (r : Int32) (u : Unit) => (r, u) = out) (pst0 D cA A (w1_X1_hasRoom cA a0 a1 a2 a3 t)) A) args s 0 0 A) (entryFrame m args 1))
  rw [← hQ]
  have hP : va_P D CL [(a0, e_X1 a1 a2 a3 t)] s.heap := hP
  have hD : va_D A [(a0, e_X1 a1 a2 a3 t)] := hD
  have B_14 : ∀ (s0 : Int32) (H : Heap) (locs : List Loc) (ls : Array Slot), b_X1_hasRoom_14 fu t s0 = some out → va_P D CL [(a0, e_X1 a1 a2 a3 t)] H → va_D A [(a0, e_X1 a1 a2 a3 t)] → va_S A s.heap H locs → lv_has ls 1 [(0, .ref a0)] → W p l e rm_X1_hasRoom s m args below meth c H locs 0 0 Q (F0 m 14 ls [.int s0]) := by
    intro  s0 H locs ls hm hP hD hS hl
    unfold b_X1_hasRoom_14 at hm
    obtain ⟨hz1, hm⟩ := gd_s hm
    rw [hQ]
    exact W.zret (v := s0) hx hb hr (bz_nr hz1) (fun t9 ht hW => ⟨⟨s0, (), rfl, (Option.some.inj hm), by rw [ht]; exact hP, va_K.moved hW.alike hK, hD⟩, hS.F ht⟩) hS.2.2 dX1_hasRoom_14
  unfold m_X1_hasRoom at hm
  subst hargs
  have hl := lv_entry ([.ref a0]) (n := 1) (Nat.le_of_ble_eq_true rfl)
  rw [lg_entry_eq]
  generalize (lg_sl ([.ref a0]) ++ List.replicate (1 - (lg_sl ([.ref a0])).length) Slot.unset).toArray = ls at hl ⊢
  have hl : lv_has ls 1 [(0, .ref a0)] := hl
  refine lv_aload_n hx hb dX1_hasRoom_0 rfl (lv_at hl 0 rfl) ?_
  refine va_get (D := D) (ci := 1) (v := .int (t 8)) (C := RX1) (T := TX1) (N := 12) hx hb htg inX1 hown hK hP 0 rfl rfl 8 (by decide) (htg _ q_1_57) (fun _ h9 => h9) rfl dX1_hasRoom_1 ?_
  refine lv_bipush (v := (8 : Int32)) hx hb dX1_hasRoom_4 (by decide) ?_
  refine lv_icmp_ge (tgt := 13) hx hb dX1_hasRoom_6 (by decide) (fun c2 => ?_) (fun c2 => ?_)
  · have hm := it_t c2 hm
    refine lv_iconst (v := (0 : Int32)) hx hb dX1_hasRoom_13 (by decide) ?_
    exact B_14 _ _ _ _ hm hP hD hS (lv_sub hl [0] rfl)
  · have hm := it_f c2 hm
    refine lv_iconst (v := (1 : Int32)) hx hb dX1_hasRoom_9 (by decide) ?_
    refine lv_goto (tgt := 14) hx hb dX1_hasRoom_10 (by decide) ?_
    exact B_14 _ _ _ _ hm hP hD hS (lv_sub hl [0] rfl)
def b_X1_addVoice_53 (fu : Nat) (t : Nat → Int32) (t_kinds : Nat → Int32) (t_as : Nat → Int32) (t_pitches : Nat → Int32) : Option ((Nat → Int32) × (Nat → Int32) × (Nat → Int32) × (Nat → Int32)) :=
  some (t, t_kinds, t_as, t_pitches)
def m_X1_addVoice (fu : Nat) (t : Nat → Int32) (t_kinds : Nat → Int32) (t_as : Nat → Int32) (t_pitches : Nat → Int32) (l1 : Int32) (l2 : Int32) (l3 : Int32) : Option ((Nat → Int32) × (Nat → Int32) × (Nat → Int32) × (Nat → Int32)) :=
  (m_X5_isWithin fu (t 8) (0 : Int32) (7 : Int32)).bind fun o1 =>
  (if o1.1 = 0 then
    b_X1_addVoice_53 fu t t_kinds t_as t_pitches
  else
    gd (inb (t 8) 8) (
    gd (inb (t 8) 8) (
    gd (inb (t 8) 8) (
    b_X1_addVoice_53 fu (upd t 8 (t 8 + (1 : Int32))) (upd t_kinds (t 8).toNatClampNeg l1) (upd t_as (t 8).toNatClampNeg l2) (upd t_pitches (t 8).toNatClampNeg l3)))))
abbrev rm_X1_addVoice : Room := ({ frames := 1, cells := 0, slots := 0, locals := 22 } : Room)
abbrev w0_X1_addVoice (cA : Nat → ClassId) (a0 : Nat) (a1 : Nat) (a2 : Nat) (a3 : Nat) (t : Nat → Int32) (t_kinds : Nat → Int32) (t_as : Nat → Int32) (t_pitches : Nat → Int32) : va_W := [(a0, e_X1 a1 a2 a3 t), (a1, eI cA 8 t_kinds), (a2, eI cA 8 t_as), (a3, eI cA 8 t_pitches)]
abbrev w1_X1_addVoice (cA : Nat → ClassId) (a0 : Nat) (a1 : Nat) (a2 : Nat) (a3 : Nat) (u : (Nat → Int32) × (Nat → Int32) × (Nat → Int32) × (Nat → Int32)) : va_W := [(a0, e_X1 a1 a2 a3 u.1), (a1, eI cA 8 u.2.1), (a2, eI cA 8 u.2.2.1), (a3, eI cA 8 u.2.2.2)]
theorem hd_X1_addVoice : yX1_addVoice.cls = RX1 ∧ yX1_addVoice.cls ≠ "java/lang/invoke/MethodHandle" ∧ yX1_addVoice.cls ≠ "java/lang/invoke/VarHandle" ∧ (parseMethodDescriptor yX1_addVoice.desc).map (fun d => d.parameters.length) = some 3 := by decide +kernel
set_option maxHeartbeats 40000000 in
set_option maxRecDepth 100000 in
theorem c_X1_addVoice (l : Launch) (D : va_G) (cA : Nat → ClassId) (sz : Nat) (fu : Nat) (a0 : Nat) (a1 : Nat) (a2 : Nat) (a3 : Nat) (t : Nat → Int32) (t_kinds : Nat → Int32) (t_as : Nat → Int32) (t_pitches : Nat → Int32) (l1 : Int32) (l2 : Int32) (l3 : Int32) (out : (Nat → Int32) × (Nat → Int32) × (Nat → Int32) × (Nat → Int32)) (hm : m_X1_addVoice fu t t_kinds t_as t_pitches l1 l2 l3 = some out) : MV l yX1_addVoice (wU yX1_addVoice cX1_addVoice 4 ((Option.none : Option Jvm.ClassFile.FieldType))) rm_X1_addVoice D cA sz [.ref a0, .int l1, .int l2, .int l3] (w0_X1_addVoice cA a0 a1 a2 a3 t t_kinds t_as t_pitches) out (w1_X1_addVoice cA a0 a1 a2 a3) := by
  refine Met.ofW (cc := cX1_addVoice) (maxL := 4) (ret := (Option.none : Option Jvm.ClassFile.FieldType)) (by decide) rfl ?_
  intro p e s m args below meth c s₁ B hml hv
  obtain ⟨hargs, hsz, hP, hK, hD0, hN⟩ := hv
  have hx := B.exec
  have hb := B.bytes
  have hr := B.returns
  have htg : ∀ w ∈ gw, w.before args s = true := fun w h => atoms_spec (ws := wU yX1_addVoice cX1_addVoice 4 ((Option.none : Option Jvm.ClassFile.FieldType))) B.pre w (List.mem_cons_of_mem _ h)
  have hown : s.vm.findClass RX1 = some m.cls := findClass_of_methodNamed B.named
  have hlocks := B.notSynchronized
  subst hsz
  have hD := hD0.self (sz := s.heap.size)
  have hA : ∀ q : Nat, s.heap.size ≤ q → va_A (w0_X1_addVoice cA a0 a1 a2 a3 t t_kinds t_as t_pitches) s.heap.size q := fun q h => Or.inr h
  have hS : va_S (va_A (w0_X1_addVoice cA a0 a1 a2 a3 t t_kinds t_as t_pitches) s.heap.size) s.heap s.heap [] := va_S.rf
  generalize va_A (w0_X1_addVoice cA a0 a1 a2 a3 t t_kinds t_as t_pitches) s.heap.size = A at hA hD hS ⊢
  obtain ⟨Q, hQ⟩ : ∃ Q : State → Prop, Q = MQ below (va_Qv (fun (u : (Nat → Int32) × (Nat → Int32) × (Nat → Int32) × (Nat → Int32)) => u = out) (pst0 D cA A (w1_X1_addVoice cA a0 a1 a2 a3)) A) args s 0 0 A := ⟨_, rfl⟩
  refine (?_ : W p l e rm_X1_addVoice s m args below meth c s.heap [] 0 0 (MQ below (va_Qv (fun (u : (Nat → Int32) × (Nat → Int32) × (Nat → Int32) × (Nat → Int32)) => u = out) (pst0 D cA A (w1_X1_addVoice cA a0 a1 a2 a3)) A) args s 0 0 A) (entryFrame m args 4))
  rw [← hQ]
  have hP : va_P D CL [(a0, e_X1 a1 a2 a3 t), (a1, eI cA 8 t_kinds), (a2, eI cA 8 t_as), (a3, eI cA 8 t_pitches)] s.heap := hP
  have hD : va_D A [(a0, e_X1 a1 a2 a3 t), (a1, eI cA 8 t_kinds), (a2, eI cA 8 t_as), (a3, eI cA 8 t_pitches)] := hD
  have B_53 : ∀ (t : Nat → Int32) (t_kinds : Nat → Int32) (t_as : Nat → Int32) (t_pitches : Nat → Int32) (H : Heap) (locs : List Loc) (ls : Array Slot), b_X1_addVoice_53 fu t t_kinds t_as t_pitches = some out → va_P D CL [(a0, e_X1 a1 a2 a3 t), (a1, eI cA 8 t_kinds), (a2, eI cA 8 t_as), (a3, eI cA 8 t_pitches)] H → va_D A [(a0, e_X1 a1 a2 a3 t), (a1, eI cA 8 t_kinds), (a2, eI cA 8 t_as), (a3, eI cA 8 t_pitches)] → va_S A s.heap H locs → lv_has ls 4 [(0, .ref a0)] → W p l e rm_X1_addVoice s m args below meth c H locs 0 0 Q (F0 m 53 ls []) := by
    intro  t t_kinds t_as t_pitches H locs ls hm hP hD hS hl
    unfold b_X1_addVoice_53 at hm
    rw [hQ]
    exact W.vret hx hb hr (fun t9 ht hW => ⟨⟨(t, t_kinds, t_as, t_pitches), rfl, (Option.some.inj hm), by rw [ht]; exact hP, va_K.moved hW.alike hK, hD⟩, hS.F ht⟩) hS.2.2 dX1_addVoice_53
  unfold m_X1_addVoice at hm
  subst hargs
  have hl := lv_entry ([.ref a0, .int l1, .int l2, .int l3]) (n := 4) (Nat.le_of_ble_eq_true rfl)
  rw [lg_entry_eq]
  generalize (lg_sl ([.ref a0, .int l1, .int l2, .int l3]) ++ List.replicate (4 - (lg_sl ([.ref a0, .int l1, .int l2, .int l3])).length) Slot.unset).toArray = ls at hl ⊢
  have hl : lv_has ls 4 [(0, .ref a0), (1, .int l1), (2, .int l2), (3, .int l3)] := hl
  refine lv_aload_n hx hb dX1_addVoice_0 rfl (lv_at hl 0 rfl) ?_
  refine va_get (D := D) (ci := 1) (v := .int (t 8)) (C := RX1) (T := TX1) (N := 12) hx hb htg inX1 hown hK hP 0 rfl rfl 8 (by decide) (htg _ q_1_57) (fun _ h9 => h9) rfl dX1_addVoice_1 ?_
  refine lv_iconst (v := (0 : Int32)) hx hb dX1_addVoice_4 (by decide) ?_
  refine lv_bipush (v := (7 : Int32)) hx hb dX1_addVoice_5 (by decide) ?_
  obtain ⟨o1, ho2, hm⟩ := bd_s hm
  refine xr_i (wr := [(a0, e_X1 a1 a2 a3 t), (a1, eI cA 8 t_kinds), (a2, eI cA 8 t_as), (a3, eI cA 8 t_pitches)]) (wn := [(a0, e_X1 a1 a2 a3 t), (a1, eI cA 8 t_kinds), (a2, eI cA 8 t_as), (a3, eI cA 8 t_pitches)]) (va_runSN (As := [.int (t 8), .int (0 : Int32), .int (7 : Int32)]) (rest := []) ⟨hx, hb, hml, hown, htg⟩ (c_X5_isWithin l D cA _ fu (t 8) (0 : Int32) (7 : Int32) o1 ho2) ⟨va_cnB 3 htg (gU q_2_9) rfl rfl rfl (hN _ q_2_106) (htg _ q_1_1) hd_X5_isWithin.2 ⟨Nat.le_of_ble_eq_true rfl, Nat.le_of_ble_eq_true rfl⟩, htg _ q_2_8, trivial⟩ (xpS hN hK hP hD [] rfl (by decide)) rfl rfl hl.1 rfl (lv_room (Nat.le_of_ble_eq_true rfl)) dX1_addVoice_7 ⟨Nat.zero_le _, Nat.zero_le _⟩) hP hD hS hA [] [0, 1, 2, 3] [0, 1, 2, 3] rfl rfl (by decide) (by decide) rfl (by decide) (fun H locs hP hD hS => ?_)
  refine lv_if_eq (tgt := 53) hx hb dX1_addVoice_10 (by decide) (fun c3 => ?_) (fun c3 => ?_)
  · have hm := it_t c3 hm
    exact B_53 _ _ _ _ _ _ _ hm hP hD hS (lv_sub hl [0] rfl)
  · have hm := it_f c3 hm
    refine lv_aload_n hx hb dX1_addVoice_13 rfl (lv_at hl 0 rfl) ?_
    refine va_get (D := D) (ci := 1) (v := .ref a1) (C := RX1) (T := TX1) (N := 12) hx hb htg inX1 hown hK hP 0 rfl rfl 9 (by decide) (htg _ q_1_60) (fun _ h9 => h9) rfl dX1_addVoice_14 ?_
    refine lv_aload_n hx hb dX1_addVoice_17 rfl (lv_at hl 0 rfl) ?_
    refine va_get (D := D) (ci := 1) (v := .int (t 8)) (C := RX1) (T := TX1) (N := 12) hx hb htg inX1 hown hK hP 0 rfl rfl 8 (by decide) (htg _ q_1_57) (fun _ h9 => h9) rfl dX1_addVoice_18 ?_
    refine lv_iload_n hx hb dX1_addVoice_21 rfl (lv_at hl 1 rfl) ?_
    obtain ⟨hi4, hm⟩ := gd_s hm
    refine va_iast hx hb hK hP hD hS 1 0 rfl rfl hi4 dX1_addVoice_22 (fun H locs (hP : va_P D CL [(a0, e_X1 a1 a2 a3 t), (a1, eI cA 8 (upd t_kinds (t 8).toNatClampNeg l1)), (a2, eI cA 8 t_as), (a3, eI cA 8 t_pitches)] H) (hD : va_D A [(a0, e_X1 a1 a2 a3 t), (a1, eI cA 8 (upd t_kinds (t 8).toNatClampNeg l1)), (a2, eI cA 8 t_as), (a3, eI cA 8 t_pitches)]) hS => ?_)
    refine lv_aload_n hx hb dX1_addVoice_23 rfl (lv_at hl 0 rfl) ?_
    refine va_get (D := D) (ci := 1) (v := .ref a2) (C := RX1) (T := TX1) (N := 12) hx hb htg inX1 hown hK hP 0 rfl rfl 10 (by decide) (htg _ q_1_61) (fun _ h9 => h9) rfl dX1_addVoice_24 ?_
    refine lv_aload_n hx hb dX1_addVoice_27 rfl (lv_at hl 0 rfl) ?_
    refine va_get (D := D) (ci := 1) (v := .int (t 8)) (C := RX1) (T := TX1) (N := 12) hx hb htg inX1 hown hK hP 0 rfl rfl 8 (by decide) (htg _ q_1_57) (fun _ h9 => h9) rfl dX1_addVoice_28 ?_
    refine lv_iload_n hx hb dX1_addVoice_31 rfl (lv_at hl 2 rfl) ?_
    obtain ⟨hi5, hm⟩ := gd_s hm
    refine va_iast hx hb hK hP hD hS 2 0 rfl rfl hi5 dX1_addVoice_32 (fun H locs (hP : va_P D CL [(a0, e_X1 a1 a2 a3 t), (a1, eI cA 8 (upd t_kinds (t 8).toNatClampNeg l1)), (a2, eI cA 8 (upd t_as (t 8).toNatClampNeg l2)), (a3, eI cA 8 t_pitches)] H) (hD : va_D A [(a0, e_X1 a1 a2 a3 t), (a1, eI cA 8 (upd t_kinds (t 8).toNatClampNeg l1)), (a2, eI cA 8 (upd t_as (t 8).toNatClampNeg l2)), (a3, eI cA 8 t_pitches)]) hS => ?_)
    refine lv_aload_n hx hb dX1_addVoice_33 rfl (lv_at hl 0 rfl) ?_
    refine va_get (D := D) (ci := 1) (v := .ref a3) (C := RX1) (T := TX1) (N := 12) hx hb htg inX1 hown hK hP 0 rfl rfl 11 (by decide) (htg _ q_1_62) (fun _ h9 => h9) rfl dX1_addVoice_34 ?_
    refine lv_aload_n hx hb dX1_addVoice_37 rfl (lv_at hl 0 rfl) ?_
    refine va_get (D := D) (ci := 1) (v := .int (t 8)) (C := RX1) (T := TX1) (N := 12) hx hb htg inX1 hown hK hP 0 rfl rfl 8 (by decide) (htg _ q_1_57) (fun _ h9 => h9) rfl dX1_addVoice_38 ?_
    refine lv_iload_n hx hb dX1_addVoice_41 rfl (lv_at hl 3 rfl) ?_
    obtain ⟨hi6, hm⟩ := gd_s hm
    refine va_iast hx hb hK hP hD hS 3 0 rfl rfl hi6 dX1_addVoice_42 (fun H locs (hP : va_P D CL [(a0, e_X1 a1 a2 a3 t), (a1, eI cA 8 (upd t_kinds (t 8).toNatClampNeg l1)), (a2, eI cA 8 (upd t_as (t 8).toNatClampNeg l2)), (a3, eI cA 8 (upd t_pitches (t 8).toNatClampNeg l3))] H) (hD : va_D A [(a0, e_X1 a1 a2 a3 t), (a1, eI cA 8 (upd t_kinds (t 8).toNatClampNeg l1)), (a2, eI cA 8 (upd t_as (t 8).toNatClampNeg l2)), (a3, eI cA 8 (upd t_pitches (t 8).toNatClampNeg l3))]) hS => ?_)
    refine lv_aload_n hx hb dX1_addVoice_43 rfl (lv_at hl 0 rfl) ?_
    refine lv_dup hx hb dX1_addVoice_44 rfl ?_
    refine va_get (D := D) (ci := 1) (v := .int (t 8)) (C := RX1) (T := TX1) (N := 12) hx hb htg inX1 hown hK hP 0 rfl rfl 8 (by decide) (htg _ q_1_57) (fun _ h9 => h9) rfl dX1_addVoice_45 ?_
    refine lv_iconst (v := (1 : Int32)) hx hb dX1_addVoice_48 (by decide) ?_
    refine lv_iadd hx hb dX1_addVoice_49 ?_
    refine va_put (D := D) (ci := 1) (v := .int (t 8 + (1 : Int32))) (ty := .int) (C := RX1) (T := TX1) (N := 12) hx hb htg inX1 tyX1 tyX1_ok nmX1 hown hK hP hD hS 0 rfl rfl 8 (by decide) (htg _ q_1_57) (fun _ h9 => h9) rfl (by decide +kernel) rfl rfl (Nat.le_of_ble_eq_true rfl) dX1_addVoice_50 (fun H locs (hP : va_P D CL [(a0, e_X1 a1 a2 a3 (upd t 8 (t 8 + (1 : Int32)))), (a1, eI cA 8 (upd t_kinds (t 8).toNatClampNeg l1)), (a2, eI cA 8 (upd t_as (t 8).toNatClampNeg l2)), (a3, eI cA 8 (upd t_pitches (t 8).toNatClampNeg l3))] H) (hD : va_D A [(a0, e_X1 a1 a2 a3 (upd t 8 (t 8 + (1 : Int32)))), (a1, eI cA 8 (upd t_kinds (t 8).toNatClampNeg l1)), (a2, eI cA 8 (upd t_as (t 8).toNatClampNeg l2)), (a3, eI cA 8 (upd t_pitches (t 8).toNatClampNeg l3))]) hS => ?_)
    exact B_53 _ _ _ _ _ _ _ hm hP hD hS (lv_sub hl [0] rfl)
def b_X1_putPitch_17 (fu : Nat) (t : Nat → Int32) (t_pitches : Nat → Int32) : Option ((Nat → Int32)) :=
  some t_pitches
def m_X1_putPitch (fu : Nat) (t : Nat → Int32) (t_pitches : Nat → Int32) (l1 : Int32) (l2 : Int32) : Option ((Nat → Int32)) :=
  (m_X5_isWithin fu l1 (0 : Int32) (7 : Int32)).bind fun o1 =>
  (if o1.1 = 0 then
    b_X1_putPitch_17 fu t t_pitches
  else
    gd (inb l1 8) (
    b_X1_putPitch_17 fu t (upd t_pitches l1.toNatClampNeg l2)))
abbrev rm_X1_putPitch : Room := ({ frames := 1, cells := 0, slots := 0, locals := 22 } : Room)
abbrev w0_X1_putPitch (cA : Nat → ClassId) (a0 : Nat) (a1 : Nat) (a2 : Nat) (a3 : Nat) (t : Nat → Int32) (t_pitches : Nat → Int32) : va_W := [(a0, e_X1 a1 a2 a3 t), (a3, eI cA 8 t_pitches)]
abbrev w1_X1_putPitch (cA : Nat → ClassId) (a0 : Nat) (a1 : Nat) (a2 : Nat) (a3 : Nat) (t : Nat → Int32) (u : (Nat → Int32)) : va_W := [(a0, e_X1 a1 a2 a3 t), (a3, eI cA 8 u)]
theorem hd_X1_putPitch : yX1_putPitch.cls = RX1 ∧ yX1_putPitch.cls ≠ "java/lang/invoke/MethodHandle" ∧ yX1_putPitch.cls ≠ "java/lang/invoke/VarHandle" ∧ (parseMethodDescriptor yX1_putPitch.desc).map (fun d => d.parameters.length) = some 2 := by decide +kernel
set_option maxHeartbeats 40000000 in
set_option maxRecDepth 100000 in
theorem c_X1_putPitch (l : Launch) (D : va_G) (cA : Nat → ClassId) (sz : Nat) (fu : Nat) (a0 : Nat) (a1 : Nat) (a2 : Nat) (a3 : Nat) (t : Nat → Int32) (t_pitches : Nat → Int32) (l1 : Int32) (l2 : Int32) (out : (Nat → Int32)) (hm : m_X1_putPitch fu t t_pitches l1 l2 = some out) : MV l yX1_putPitch (wU yX1_putPitch cX1_putPitch 3 ((Option.none : Option Jvm.ClassFile.FieldType))) rm_X1_putPitch D cA sz [.ref a0, .int l1, .int l2] (w0_X1_putPitch cA a0 a1 a2 a3 t t_pitches) out (w1_X1_putPitch cA a0 a1 a2 a3 t) := by
  refine Met.ofW (cc := cX1_putPitch) (maxL := 3) (ret := (Option.none : Option Jvm.ClassFile.FieldType)) (by decide) rfl ?_
  intro p e s m args below meth c s₁ B hml hv
  obtain ⟨hargs, hsz, hP, hK, hD0, hN⟩ := hv
  have hx := B.exec
  have hb := B.bytes
  have hr := B.returns
  have htg : ∀ w ∈ gw, w.before args s = true := fun w h => atoms_spec (ws := wU yX1_putPitch cX1_putPitch 3 ((Option.none : Option Jvm.ClassFile.FieldType))) B.pre w (List.mem_cons_of_mem _ h)
  have hown : s.vm.findClass RX1 = some m.cls := findClass_of_methodNamed B.named
  have hlocks := B.notSynchronized
  subst hsz
  have hD := hD0.self (sz := s.heap.size)
  have hA : ∀ q : Nat, s.heap.size ≤ q → va_A (w0_X1_putPitch cA a0 a1 a2 a3 t t_pitches) s.heap.size q := fun q h => Or.inr h
  have hS : va_S (va_A (w0_X1_putPitch cA a0 a1 a2 a3 t t_pitches) s.heap.size) s.heap s.heap [] := va_S.rf
  generalize va_A (w0_X1_putPitch cA a0 a1 a2 a3 t t_pitches) s.heap.size = A at hA hD hS ⊢
  obtain ⟨Q, hQ⟩ : ∃ Q : State → Prop, Q = MQ below (va_Qv (fun (u : (Nat → Int32)) => u = out) (pst0 D cA A (w1_X1_putPitch cA a0 a1 a2 a3 t)) A) args s 0 0 A := ⟨_, rfl⟩
  refine (?_ : W p l e rm_X1_putPitch s m args below meth c s.heap [] 0 0 (MQ below (va_Qv (fun (u : (Nat → Int32)) => u = out) (pst0 D cA A (w1_X1_putPitch cA a0 a1 a2 a3 t)) A) args s 0 0 A) (entryFrame m args 3))
  rw [← hQ]
  have hP : va_P D CL [(a0, e_X1 a1 a2 a3 t), (a3, eI cA 8 t_pitches)] s.heap := hP
  have hD : va_D A [(a0, e_X1 a1 a2 a3 t), (a3, eI cA 8 t_pitches)] := hD
  have B_17 : ∀ (t_pitches : Nat → Int32) (H : Heap) (locs : List Loc) (ls : Array Slot), b_X1_putPitch_17 fu t t_pitches = some out → va_P D CL [(a0, e_X1 a1 a2 a3 t), (a3, eI cA 8 t_pitches)] H → va_D A [(a0, e_X1 a1 a2 a3 t), (a3, eI cA 8 t_pitches)] → va_S A s.heap H locs → lv_has ls 3 [(0, .ref a0)] → W p l e rm_X1_putPitch s m args below meth c H locs 0 0 Q (F0 m 17 ls []) := by
    intro  t_pitches H locs ls hm hP hD hS hl
    unfold b_X1_putPitch_17 at hm
    rw [hQ]
    exact W.vret hx hb hr (fun t9 ht hW => ⟨⟨t_pitches, rfl, (Option.some.inj hm), by rw [ht]; exact hP, va_K.moved hW.alike hK, hD⟩, hS.F ht⟩) hS.2.2 dX1_putPitch_17
  unfold m_X1_putPitch at hm
  subst hargs
  have hl := lv_entry ([.ref a0, .int l1, .int l2]) (n := 3) (Nat.le_of_ble_eq_true rfl)
  rw [lg_entry_eq]
  generalize (lg_sl ([.ref a0, .int l1, .int l2]) ++ List.replicate (3 - (lg_sl ([.ref a0, .int l1, .int l2])).length) Slot.unset).toArray = ls at hl ⊢
  have hl : lv_has ls 3 [(0, .ref a0), (1, .int l1), (2, .int l2)] := hl
  refine lv_iload_n hx hb dX1_putPitch_0 rfl (lv_at hl 1 rfl) ?_
  refine lv_iconst (v := (0 : Int32)) hx hb dX1_putPitch_1 (by decide) ?_
  refine lv_bipush (v := (7 : Int32)) hx hb dX1_putPitch_2 (by decide) ?_
  obtain ⟨o1, ho2, hm⟩ := bd_s hm
  refine xr_i (wr := [(a0, e_X1 a1 a2 a3 t), (a3, eI cA 8 t_pitches)]) (wn := [(a0, e_X1 a1 a2 a3 t), (a3, eI cA 8 t_pitches)]) (va_runSN (As := [.int l1, .int (0 : Int32), .int (7 : Int32)]) (rest := []) ⟨hx, hb, hml, hown, htg⟩ (c_X5_isWithin l D cA _ fu l1 (0 : Int32) (7 : Int32) o1 ho2) ⟨va_cnB 3 htg (gU q_2_9) rfl rfl rfl (hN _ q_2_106) (htg _ q_1_1) hd_X5_isWithin.2 ⟨Nat.le_of_ble_eq_true rfl, Nat.le_of_ble_eq_true rfl⟩, htg _ q_2_8, trivial⟩ (xpS hN hK hP hD [] rfl (by decide)) rfl rfl hl.1 rfl (lv_room (Nat.le_of_ble_eq_true rfl)) dX1_putPitch_4 ⟨Nat.zero_le _, Nat.zero_le _⟩) hP hD hS hA [] [0, 1] [0, 1] rfl rfl (by decide) (by decide) rfl (by decide) (fun H locs hP hD hS => ?_)
  refine lv_if_eq (tgt := 17) hx hb dX1_putPitch_7 (by decide) (fun c3 => ?_) (fun c3 => ?_)
  · have hm := it_t c3 hm
    exact B_17 _ _ _ _ hm hP hD hS (lv_sub hl [0] rfl)
  · have hm := it_f c3 hm
    refine lv_aload_n hx hb dX1_putPitch_10 rfl (lv_at hl 0 rfl) ?_
    refine va_get (D := D) (ci := 1) (v := .ref a3) (C := RX1) (T := TX1) (N := 12) hx hb htg inX1 hown hK hP 0 rfl rfl 11 (by decide) (htg _ q_1_62) (fun _ h9 => h9) rfl dX1_putPitch_11 ?_
    refine lv_iload_n hx hb dX1_putPitch_14 rfl (lv_at hl 1 rfl) ?_
    refine lv_iload_n hx hb dX1_putPitch_15 rfl (lv_at hl 2 rfl) ?_
    obtain ⟨hi4, hm⟩ := gd_s hm
    refine va_iast hx hb hK hP hD hS 1 0 rfl rfl hi4 dX1_putPitch_16 (fun H locs (hP : va_P D CL [(a0, e_X1 a1 a2 a3 t), (a3, eI cA 8 (upd t_pitches l1.toNatClampNeg l2))] H) (hD : va_D A [(a0, e_X1 a1 a2 a3 t), (a3, eI cA 8 (upd t_pitches l1.toNatClampNeg l2))]) hS => ?_)
    exact B_17 _ _ _ _ hm hP hD hS (lv_sub hl [0] rfl)
def b_X1_becomes_74 (fu : Nat) (p1 : Nat → Int32) (p1_kinds : Nat → Int32) (p1_as : Nat → Int32) (p1_pitches : Nat → Int32) (k_74 : (Int32 × (Nat → Int32) × (Nat → Int32) × (Nat → Int32) × (Nat → Int32)) → Option ((Nat → Int32) × (Nat → Int32) × (Nat → Int32) × (Nat → Int32))) (x : Int32 × (Nat → Int32) × (Nat → Int32) × (Nat → Int32) × (Nat → Int32)) : Option ((Nat → Int32) × (Nat → Int32) × (Nat → Int32) × (Nat → Int32)) :=
  (if (8 : Int32) ≤ x.1 then
        some (x.2.1, x.2.2.1, x.2.2.2.1, x.2.2.2.2)
      else
        gd (inb x.1 8) (
        gd (inb x.1 8) (
        gd (inb x.1 8) (
        gd (inb x.1 8) (
        gd (inb x.1 8) (
        gd (inb x.1 8) (
        k_74 ((x.1 + (1 : Int32)), x.2.1, (upd x.2.2.1 x.1.toNatClampNeg (p1_kinds x.1.toNatClampNeg)), (upd x.2.2.2.1 x.1.toNatClampNeg (p1_as x.1.toNatClampNeg)), (upd x.2.2.2.2 x.1.toNatClampNeg (p1_pitches x.1.toNatClampNeg))))))))))
def m_X1_becomes (fu : Nat) (t : Nat → Int32) (t_kinds : Nat → Int32) (t_as : Nat → Int32) (t_pitches : Nat → Int32) (p1 : Nat → Int32) (p1_kinds : Nat → Int32) (p1_as : Nat → Int32) (p1_pitches : Nat → Int32) : Option ((Nat → Int32) × (Nat → Int32) × (Nat → Int32) × (Nat → Int32)) :=
  lfix (b_X1_becomes_74 fu p1 p1_kinds p1_as p1_pitches) fu ((0 : Int32), (upd (upd (upd (upd (upd (upd (upd (upd (upd t 0 (p1 0)) 1 (p1 1)) 2 (p1 2)) 3 (p1 3)) 4 (p1 4)) 5 (p1 5)) 6 (p1 6)) 7 (p1 7)) 8 (p1 8)), t_kinds, t_as, t_pitches)
abbrev rm_X1_becomes : Room := ({ frames := 0, cells := 0, slots := 0, locals := 0 } : Room)
abbrev w0_X1_becomes (cA : Nat → ClassId) (a0 : Nat) (a1 : Nat) (a2 : Nat) (a3 : Nat) (p1a0 : Nat) (p1a1 : Nat) (p1a2 : Nat) (p1a3 : Nat) (t : Nat → Int32) (t_kinds : Nat → Int32) (t_as : Nat → Int32) (t_pitches : Nat → Int32) (p1 : Nat → Int32) (p1_kinds : Nat → Int32) (p1_as : Nat → Int32) (p1_pitches : Nat → Int32) : va_W := [(a0, e_X1 a1 a2 a3 t), (a1, eI cA 8 t_kinds), (a2, eI cA 8 t_as), (a3, eI cA 8 t_pitches), (p1a0, e_X1 p1a1 p1a2 p1a3 p1), (p1a1, eI cA 8 p1_kinds), (p1a2, eI cA 8 p1_as), (p1a3, eI cA 8 p1_pitches)]
abbrev w1_X1_becomes (cA : Nat → ClassId) (a0 : Nat) (a1 : Nat) (a2 : Nat) (a3 : Nat) (p1a0 : Nat) (p1a1 : Nat) (p1a2 : Nat) (p1a3 : Nat) (p1 : Nat → Int32) (p1_kinds : Nat → Int32) (p1_as : Nat → Int32) (p1_pitches : Nat → Int32) (u : (Nat → Int32) × (Nat → Int32) × (Nat → Int32) × (Nat → Int32)) : va_W := [(a0, e_X1 a1 a2 a3 u.1), (a1, eI cA 8 u.2.1), (a2, eI cA 8 u.2.2.1), (a3, eI cA 8 u.2.2.2), (p1a0, e_X1 p1a1 p1a2 p1a3 p1), (p1a1, eI cA 8 p1_kinds), (p1a2, eI cA 8 p1_as), (p1a3, eI cA 8 p1_pitches)]
theorem hd_X1_becomes : yX1_becomes.cls = RX1 ∧ yX1_becomes.cls ≠ "java/lang/invoke/MethodHandle" ∧ yX1_becomes.cls ≠ "java/lang/invoke/VarHandle" ∧ (parseMethodDescriptor yX1_becomes.desc).map (fun d => d.parameters.length) = some 1 := by decide +kernel
set_option maxHeartbeats 40000000 in
set_option maxRecDepth 100000 in
theorem c_X1_becomes (l : Launch) (D : va_G) (cA : Nat → ClassId) (sz : Nat) (fu : Nat) (a0 : Nat) (a1 : Nat) (a2 : Nat) (a3 : Nat) (p1a0 : Nat) (p1a1 : Nat) (p1a2 : Nat) (p1a3 : Nat) (t : Nat → Int32) (t_kinds : Nat → Int32) (t_as : Nat → Int32) (t_pitches : Nat → Int32) (p1 : Nat → Int32) (p1_kinds : Nat → Int32) (p1_as : Nat → Int32) (p1_pitches : Nat → Int32) (out : (Nat → Int32) × (Nat → Int32) × (Nat → Int32) × (Nat → Int32)) (hm : m_X1_becomes fu t t_kinds t_as t_pitches p1 p1_kinds p1_as p1_pitches = some out) : MV l yX1_becomes (wU yX1_becomes cX1_becomes 3 ((Option.none : Option Jvm.ClassFile.FieldType))) rm_X1_becomes D cA sz [.ref a0, .ref p1a0] (w0_X1_becomes cA a0 a1 a2 a3 p1a0 p1a1 p1a2 p1a3 t t_kinds t_as t_pitches p1 p1_kinds p1_as p1_pitches) out (w1_X1_becomes cA a0 a1 a2 a3 p1a0 p1a1 p1a2 p1a3 p1 p1_kinds p1_as p1_pitches) := by
  refine Met.ofW (cc := cX1_becomes) (maxL := 3) (ret := (Option.none : Option Jvm.ClassFile.FieldType)) (by decide) rfl ?_
  intro p e s m args below meth c s₁ B hml hv
  obtain ⟨hargs, hsz, hP, hK, hD0, hN⟩ := hv
  have hx := B.exec
  have hb := B.bytes
  have hr := B.returns
  have htg : ∀ w ∈ gw, w.before args s = true := fun w h => atoms_spec (ws := wU yX1_becomes cX1_becomes 3 ((Option.none : Option Jvm.ClassFile.FieldType))) B.pre w (List.mem_cons_of_mem _ h)
  have hown : s.vm.findClass RX1 = some m.cls := findClass_of_methodNamed B.named
  have hlocks := B.notSynchronized
  subst hsz
  have hD := hD0.self (sz := s.heap.size)
  have hA : ∀ q : Nat, s.heap.size ≤ q → va_A (w0_X1_becomes cA a0 a1 a2 a3 p1a0 p1a1 p1a2 p1a3 t t_kinds t_as t_pitches p1 p1_kinds p1_as p1_pitches) s.heap.size q := fun q h => Or.inr h
  have hS : va_S (va_A (w0_X1_becomes cA a0 a1 a2 a3 p1a0 p1a1 p1a2 p1a3 t t_kinds t_as t_pitches p1 p1_kinds p1_as p1_pitches) s.heap.size) s.heap s.heap [] := va_S.rf
  generalize va_A (w0_X1_becomes cA a0 a1 a2 a3 p1a0 p1a1 p1a2 p1a3 t t_kinds t_as t_pitches p1 p1_kinds p1_as p1_pitches) s.heap.size = A at hA hD hS ⊢
  obtain ⟨Q, hQ⟩ : ∃ Q : State → Prop, Q = MQ below (va_Qv (fun (u : (Nat → Int32) × (Nat → Int32) × (Nat → Int32) × (Nat → Int32)) => u = out) (pst0 D cA A (w1_X1_becomes cA a0 a1 a2 a3 p1a0 p1a1 p1a2 p1a3 p1 p1_kinds p1_as p1_pitches)) A) args s 0 0 A := ⟨_, rfl⟩
  refine (?_ : W p l e rm_X1_becomes s m args below meth c s.heap [] 0 0 (MQ below (va_Qv (fun (u : (Nat → Int32) × (Nat → Int32) × (Nat → Int32) × (Nat → Int32)) => u = out) (pst0 D cA A (w1_X1_becomes cA a0 a1 a2 a3 p1a0 p1a1 p1a2 p1a3 p1 p1_kinds p1_as p1_pitches)) A) args s 0 0 A) (entryFrame m args 3))
  rw [← hQ]
  have hP : va_P D CL [(a0, e_X1 a1 a2 a3 t), (a1, eI cA 8 t_kinds), (a2, eI cA 8 t_as), (a3, eI cA 8 t_pitches), (p1a0, e_X1 p1a1 p1a2 p1a3 p1), (p1a1, eI cA 8 p1_kinds), (p1a2, eI cA 8 p1_as), (p1a3, eI cA 8 p1_pitches)] s.heap := hP
  have hD : va_D A [(a0, e_X1 a1 a2 a3 t), (a1, eI cA 8 t_kinds), (a2, eI cA 8 t_as), (a3, eI cA 8 t_pitches), (p1a0, e_X1 p1a1 p1a2 p1a3 p1), (p1a1, eI cA 8 p1_kinds), (p1a2, eI cA 8 p1_as), (p1a3, eI cA 8 p1_pitches)] := hD
  have B_74 : ∀ (n : Nat) (x : Int32 × (Nat → Int32) × (Nat → Int32) × (Nat → Int32) × (Nat → Int32)) (H : Heap) (locs : List Loc) (ls : Array Slot), lfix (b_X1_becomes_74 fu p1 p1_kinds p1_as p1_pitches) n x = some out → va_P D CL [(a0, e_X1 a1 a2 a3 x.2.1), (a1, eI cA 8 x.2.2.1), (a2, eI cA 8 x.2.2.2.1), (a3, eI cA 8 x.2.2.2.2), (p1a0, e_X1 p1a1 p1a2 p1a3 p1), (p1a1, eI cA 8 p1_kinds), (p1a2, eI cA 8 p1_as), (p1a3, eI cA 8 p1_pitches)] H → va_D A [(a0, e_X1 a1 a2 a3 x.2.1), (a1, eI cA 8 x.2.2.1), (a2, eI cA 8 x.2.2.2.1), (a3, eI cA 8 x.2.2.2.2), (p1a0, e_X1 p1a1 p1a2 p1a3 p1), (p1a1, eI cA 8 p1_kinds), (p1a2, eI cA 8 p1_as), (p1a3, eI cA 8 p1_pitches)] → va_S A s.heap H locs → lv_has ls 3 [(0, .ref a0), (1, .ref p1a0), (2, .int x.1)] → W p l e rm_X1_becomes s m args below meth c H locs 0 0 Q (F0 m 74 ls []) := by
    intro  n
    induction n with
    | zero => intro x H locs ls hm; cases (show none = some out from hm)
    | succ n HK_74 =>
      intro x H locs ls hm hP hD hS hl
      replace hm : b_X1_becomes_74 fu p1 p1_kinds p1_as p1_pitches (lfix (b_X1_becomes_74 fu p1 p1_kinds p1_as p1_pitches) n) x = some out := hm
      unfold b_X1_becomes_74 at hm
      refine lv_iload_n hx hb dX1_becomes_74 rfl (lv_at hl 2 rfl) ?_
      refine lv_bipush (v := (8 : Int32)) hx hb dX1_becomes_75 (by decide) ?_
      refine lv_icmp_ge (tgt := 122) hx hb dX1_becomes_77 (by decide) (fun c1 => ?_) (fun c1 => ?_)
      · have hm := it_t c1 hm
        rw [hQ]
        exact W.vret hx hb hr (fun t9 ht hW => ⟨⟨(x.2.1, x.2.2.1, x.2.2.2.1, x.2.2.2.2), rfl, (Option.some.inj hm), by rw [ht]; exact hP, va_K.moved hW.alike hK, hD⟩, hS.F ht⟩) hS.2.2 dX1_becomes_122
      · have hm := it_f c1 hm
        refine lv_aload_n hx hb dX1_becomes_80 rfl (lv_at hl 0 rfl) ?_
        refine va_get (D := D) (ci := 1) (v := .ref a1) (C := RX1) (T := TX1) (N := 12) hx hb htg inX1 hown hK hP 0 rfl rfl 9 (by decide) (htg _ q_1_60) (fun _ h9 => h9) rfl dX1_becomes_81 ?_
        refine lv_iload_n hx hb dX1_becomes_84 rfl (lv_at hl 2 rfl) ?_
        refine lv_aload_n hx hb dX1_becomes_85 rfl (lv_at hl 1 rfl) ?_
        refine va_get (D := D) (ci := 1) (v := .ref p1a1) (C := RX1) (T := TX1) (N := 12) hx hb htg inX1 hown hK hP 4 rfl rfl 9 (by decide) (htg _ q_1_60) (fun _ h9 => h9) rfl dX1_becomes_86 ?_
        refine lv_iload_n hx hb dX1_becomes_89 rfl (lv_at hl 2 rfl) ?_
        obtain ⟨hi2, hm⟩ := gd_s hm
        refine va_iald hx hb hK hP 5 0 rfl rfl hi2 dX1_becomes_90 ?_
        obtain ⟨hi3, hm⟩ := gd_s hm
        refine va_iast hx hb hK hP hD hS 1 0 rfl rfl hi3 dX1_becomes_91 (fun H locs (hP : va_P D CL [(a0, e_X1 a1 a2 a3 x.2.1), (a1, eI cA 8 (upd x.2.2.1 x.1.toNatClampNeg (p1_kinds x.1.toNatClampNeg))), (a2, eI cA 8 x.2.2.2.1), (a3, eI cA 8 x.2.2.2.2), (p1a0, e_X1 p1a1 p1a2 p1a3 p1), (p1a1, eI cA 8 p1_kinds), (p1a2, eI cA 8 p1_as), (p1a3, eI cA 8 p1_pitches)] H) (hD : va_D A [(a0, e_X1 a1 a2 a3 x.2.1), (a1, eI cA 8 (upd x.2.2.1 x.1.toNatClampNeg (p1_kinds x.1.toNatClampNeg))), (a2, eI cA 8 x.2.2.2.1), (a3, eI cA 8 x.2.2.2.2), (p1a0, e_X1 p1a1 p1a2 p1a3 p1), (p1a1, eI cA 8 p1_kinds), (p1a2, eI cA 8 p1_as), (p1a3, eI cA 8 p1_pitches)]) hS => ?_)
        refine lv_aload_n hx hb dX1_becomes_92 rfl (lv_at hl 0 rfl) ?_
        refine va_get (D := D) (ci := 1) (v := .ref a2) (C := RX1) (T := TX1) (N := 12) hx hb htg inX1 hown hK hP 0 rfl rfl 10 (by decide) (htg _ q_1_61) (fun _ h9 => h9) rfl dX1_becomes_93 ?_
        refine lv_iload_n hx hb dX1_becomes_96 rfl (lv_at hl 2 rfl) ?_
        refine lv_aload_n hx hb dX1_becomes_97 rfl (lv_at hl 1 rfl) ?_
        refine va_get (D := D) (ci := 1) (v := .ref p1a2) (C := RX1) (T := TX1) (N := 12) hx hb htg inX1 hown hK hP 4 rfl rfl 10 (by decide) (htg _ q_1_61) (fun _ h9 => h9) rfl dX1_becomes_98 ?_
        refine lv_iload_n hx hb dX1_becomes_101 rfl (lv_at hl 2 rfl) ?_
        obtain ⟨hi4, hm⟩ := gd_s hm
        refine va_iald hx hb hK hP 6 0 rfl rfl hi4 dX1_becomes_102 ?_
        obtain ⟨hi5, hm⟩ := gd_s hm
        refine va_iast hx hb hK hP hD hS 2 0 rfl rfl hi5 dX1_becomes_103 (fun H locs (hP : va_P D CL [(a0, e_X1 a1 a2 a3 x.2.1), (a1, eI cA 8 (upd x.2.2.1 x.1.toNatClampNeg (p1_kinds x.1.toNatClampNeg))), (a2, eI cA 8 (upd x.2.2.2.1 x.1.toNatClampNeg (p1_as x.1.toNatClampNeg))), (a3, eI cA 8 x.2.2.2.2), (p1a0, e_X1 p1a1 p1a2 p1a3 p1), (p1a1, eI cA 8 p1_kinds), (p1a2, eI cA 8 p1_as), (p1a3, eI cA 8 p1_pitches)] H) (hD : va_D A [(a0, e_X1 a1 a2 a3 x.2.1), (a1, eI cA 8 (upd x.2.2.1 x.1.toNatClampNeg (p1_kinds x.1.toNatClampNeg))), (a2, eI cA 8 (upd x.2.2.2.1 x.1.toNatClampNeg (p1_as x.1.toNatClampNeg))), (a3, eI cA 8 x.2.2.2.2), (p1a0, e_X1 p1a1 p1a2 p1a3 p1), (p1a1, eI cA 8 p1_kinds), (p1a2, eI cA 8 p1_as), (p1a3, eI cA 8 p1_pitches)]) hS => ?_)
        refine lv_aload_n hx hb dX1_becomes_104 rfl (lv_at hl 0 rfl) ?_
        refine va_get (D := D) (ci := 1) (v := .ref a3) (C := RX1) (T := TX1) (N := 12) hx hb htg inX1 hown hK hP 0 rfl rfl 11 (by decide) (htg _ q_1_62) (fun _ h9 => h9) rfl dX1_becomes_105 ?_
        refine lv_iload_n hx hb dX1_becomes_108 rfl (lv_at hl 2 rfl) ?_
        refine lv_aload_n hx hb dX1_becomes_109 rfl (lv_at hl 1 rfl) ?_
        refine va_get (D := D) (ci := 1) (v := .ref p1a3) (C := RX1) (T := TX1) (N := 12) hx hb htg inX1 hown hK hP 4 rfl rfl 11 (by decide) (htg _ q_1_62) (fun _ h9 => h9) rfl dX1_becomes_110 ?_
        refine lv_iload_n hx hb dX1_becomes_113 rfl (lv_at hl 2 rfl) ?_
        obtain ⟨hi6, hm⟩ := gd_s hm
        refine va_iald hx hb hK hP 7 0 rfl rfl hi6 dX1_becomes_114 ?_
        obtain ⟨hi7, hm⟩ := gd_s hm
        refine va_iast hx hb hK hP hD hS 3 0 rfl rfl hi7 dX1_becomes_115 (fun H locs (hP : va_P D CL [(a0, e_X1 a1 a2 a3 x.2.1), (a1, eI cA 8 (upd x.2.2.1 x.1.toNatClampNeg (p1_kinds x.1.toNatClampNeg))), (a2, eI cA 8 (upd x.2.2.2.1 x.1.toNatClampNeg (p1_as x.1.toNatClampNeg))), (a3, eI cA 8 (upd x.2.2.2.2 x.1.toNatClampNeg (p1_pitches x.1.toNatClampNeg))), (p1a0, e_X1 p1a1 p1a2 p1a3 p1), (p1a1, eI cA 8 p1_kinds), (p1a2, eI cA 8 p1_as), (p1a3, eI cA 8 p1_pitches)] H) (hD : va_D A [(a0, e_X1 a1 a2 a3 x.2.1), (a1, eI cA 8 (upd x.2.2.1 x.1.toNatClampNeg (p1_kinds x.1.toNatClampNeg))), (a2, eI cA 8 (upd x.2.2.2.1 x.1.toNatClampNeg (p1_as x.1.toNatClampNeg))), (a3, eI cA 8 (upd x.2.2.2.2 x.1.toNatClampNeg (p1_pitches x.1.toNatClampNeg))), (p1a0, e_X1 p1a1 p1a2 p1a3 p1), (p1a1, eI cA 8 p1_kinds), (p1a2, eI cA 8 p1_as), (p1a3, eI cA 8 p1_pitches)]) hS => ?_)
        refine lv_iinc (v := (x.1 + (1 : Int32))) (lv' := [(2, .int (x.1 + (1 : Int32))), (0, .ref a0), (1, .ref p1a0)]) hx hb dX1_becomes_116 hl (k := 2) rfl rfl (by decide) rfl (fun ls hl => ?_)
        refine lv_goto (tgt := 74) hx hb dX1_becomes_119 (by decide) ?_
        exact HK_74 _ _ _ _ hm hP hD hS (lv_sub hl [1, 2, 0] rfl)
  unfold m_X1_becomes at hm
  subst hargs
  have hl := lv_entry ([.ref a0, .ref p1a0]) (n := 3) (Nat.le_of_ble_eq_true rfl)
  rw [lg_entry_eq]
  generalize (lg_sl ([.ref a0, .ref p1a0]) ++ List.replicate (3 - (lg_sl ([.ref a0, .ref p1a0])).length) Slot.unset).toArray = ls at hl ⊢
  have hl : lv_has ls 3 [(0, .ref a0), (1, .ref p1a0)] := hl
  refine lv_aload_n hx hb dX1_becomes_0 rfl (lv_at hl 0 rfl) ?_
  refine lv_aload_n hx hb dX1_becomes_1 rfl (lv_at hl 1 rfl) ?_
  refine va_get (D := D) (ci := 1) (v := .int (p1 0)) (C := RX1) (T := TX1) (N := 12) hx hb htg inX1 hown hK hP 4 rfl rfl 0 (by decide) (htg _ q_1_31) (fun _ h9 => h9) rfl dX1_becomes_2 ?_
  refine va_put (D := D) (ci := 1) (v := .int (p1 0)) (ty := .int) (C := RX1) (T := TX1) (N := 12) hx hb htg inX1 tyX1 tyX1_ok nmX1 hown hK hP hD hS 0 rfl rfl 0 (by decide) (htg _ q_1_31) (fun _ h9 => h9) rfl (by decide +kernel) rfl rfl (Nat.le_of_ble_eq_true rfl) dX1_becomes_5 (fun H locs (hP : va_P D CL [(a0, e_X1 a1 a2 a3 (upd t 0 (p1 0))), (a1, eI cA 8 t_kinds), (a2, eI cA 8 t_as), (a3, eI cA 8 t_pitches), (p1a0, e_X1 p1a1 p1a2 p1a3 p1), (p1a1, eI cA 8 p1_kinds), (p1a2, eI cA 8 p1_as), (p1a3, eI cA 8 p1_pitches)] H) (hD : va_D A [(a0, e_X1 a1 a2 a3 (upd t 0 (p1 0))), (a1, eI cA 8 t_kinds), (a2, eI cA 8 t_as), (a3, eI cA 8 t_pitches), (p1a0, e_X1 p1a1 p1a2 p1a3 p1), (p1a1, eI cA 8 p1_kinds), (p1a2, eI cA 8 p1_as), (p1a3, eI cA 8 p1_pitches)]) hS => ?_)
  refine lv_aload_n hx hb dX1_becomes_8 rfl (lv_at hl 0 rfl) ?_
  refine lv_aload_n hx hb dX1_becomes_9 rfl (lv_at hl 1 rfl) ?_
  refine va_get (D := D) (ci := 1) (v := .int (p1 1)) (C := RX1) (T := TX1) (N := 12) hx hb htg inX1 hown hK hP 4 rfl rfl 1 (by decide) (htg _ q_1_35) (fun _ h9 => h9) rfl dX1_becomes_10 ?_
  refine va_put (D := D) (ci := 1) (v := .int (p1 1)) (ty := .int) (C := RX1) (T := TX1) (N := 12) hx hb htg inX1 tyX1 tyX1_ok nmX1 hown hK hP hD hS 0 rfl rfl 1 (by decide) (htg _ q_1_35) (fun _ h9 => h9) rfl (by decide +kernel) rfl rfl (Nat.le_of_ble_eq_true rfl) dX1_becomes_13 (fun H locs (hP : va_P D CL [(a0, e_X1 a1 a2 a3 (upd (upd t 0 (p1 0)) 1 (p1 1))), (a1, eI cA 8 t_kinds), (a2, eI cA 8 t_as), (a3, eI cA 8 t_pitches), (p1a0, e_X1 p1a1 p1a2 p1a3 p1), (p1a1, eI cA 8 p1_kinds), (p1a2, eI cA 8 p1_as), (p1a3, eI cA 8 p1_pitches)] H) (hD : va_D A [(a0, e_X1 a1 a2 a3 (upd (upd t 0 (p1 0)) 1 (p1 1))), (a1, eI cA 8 t_kinds), (a2, eI cA 8 t_as), (a3, eI cA 8 t_pitches), (p1a0, e_X1 p1a1 p1a2 p1a3 p1), (p1a1, eI cA 8 p1_kinds), (p1a2, eI cA 8 p1_as), (p1a3, eI cA 8 p1_pitches)]) hS => ?_)
  refine lv_aload_n hx hb dX1_becomes_16 rfl (lv_at hl 0 rfl) ?_
  refine lv_aload_n hx hb dX1_becomes_17 rfl (lv_at hl 1 rfl) ?_
  refine va_get (D := D) (ci := 1) (v := .int (p1 2)) (C := RX1) (T := TX1) (N := 12) hx hb htg inX1 hown hK hP 4 rfl rfl 2 (by decide) (htg _ q_1_39) (fun _ h9 => h9) rfl dX1_becomes_18 ?_
  refine va_put (D := D) (ci := 1) (v := .int (p1 2)) (ty := .int) (C := RX1) (T := TX1) (N := 12) hx hb htg inX1 tyX1 tyX1_ok nmX1 hown hK hP hD hS 0 rfl rfl 2 (by decide) (htg _ q_1_39) (fun _ h9 => h9) rfl (by decide +kernel) rfl rfl (Nat.le_of_ble_eq_true rfl) dX1_becomes_21 (fun H locs (hP : va_P D CL [(a0, e_X1 a1 a2 a3 (upd (upd (upd t 0 (p1 0)) 1 (p1 1)) 2 (p1 2))), (a1, eI cA 8 t_kinds), (a2, eI cA 8 t_as), (a3, eI cA 8 t_pitches), (p1a0, e_X1 p1a1 p1a2 p1a3 p1), (p1a1, eI cA 8 p1_kinds), (p1a2, eI cA 8 p1_as), (p1a3, eI cA 8 p1_pitches)] H) (hD : va_D A [(a0, e_X1 a1 a2 a3 (upd (upd (upd t 0 (p1 0)) 1 (p1 1)) 2 (p1 2))), (a1, eI cA 8 t_kinds), (a2, eI cA 8 t_as), (a3, eI cA 8 t_pitches), (p1a0, e_X1 p1a1 p1a2 p1a3 p1), (p1a1, eI cA 8 p1_kinds), (p1a2, eI cA 8 p1_as), (p1a3, eI cA 8 p1_pitches)]) hS => ?_)
  refine lv_aload_n hx hb dX1_becomes_24 rfl (lv_at hl 0 rfl) ?_
  refine lv_aload_n hx hb dX1_becomes_25 rfl (lv_at hl 1 rfl) ?_
  refine va_get (D := D) (ci := 1) (v := .int (p1 3)) (C := RX1) (T := TX1) (N := 12) hx hb htg inX1 hown hK hP 4 rfl rfl 3 (by decide) (htg _ q_1_43) (fun _ h9 => h9) rfl dX1_becomes_26 ?_
  refine va_put (D := D) (ci := 1) (v := .int (p1 3)) (ty := .int) (C := RX1) (T := TX1) (N := 12) hx hb htg inX1 tyX1 tyX1_ok nmX1 hown hK hP hD hS 0 rfl rfl 3 (by decide) (htg _ q_1_43) (fun _ h9 => h9) rfl (by decide +kernel) rfl rfl (Nat.le_of_ble_eq_true rfl) dX1_becomes_29 (fun H locs (hP : va_P D CL [(a0, e_X1 a1 a2 a3 (upd (upd (upd (upd t 0 (p1 0)) 1 (p1 1)) 2 (p1 2)) 3 (p1 3))), (a1, eI cA 8 t_kinds), (a2, eI cA 8 t_as), (a3, eI cA 8 t_pitches), (p1a0, e_X1 p1a1 p1a2 p1a3 p1), (p1a1, eI cA 8 p1_kinds), (p1a2, eI cA 8 p1_as), (p1a3, eI cA 8 p1_pitches)] H) (hD : va_D A [(a0, e_X1 a1 a2 a3 (upd (upd (upd (upd t 0 (p1 0)) 1 (p1 1)) 2 (p1 2)) 3 (p1 3))), (a1, eI cA 8 t_kinds), (a2, eI cA 8 t_as), (a3, eI cA 8 t_pitches), (p1a0, e_X1 p1a1 p1a2 p1a3 p1), (p1a1, eI cA 8 p1_kinds), (p1a2, eI cA 8 p1_as), (p1a3, eI cA 8 p1_pitches)]) hS => ?_)
  refine lv_aload_n hx hb dX1_becomes_32 rfl (lv_at hl 0 rfl) ?_
  refine lv_aload_n hx hb dX1_becomes_33 rfl (lv_at hl 1 rfl) ?_
  refine va_get (D := D) (ci := 1) (v := .int (p1 4)) (C := RX1) (T := TX1) (N := 12) hx hb htg inX1 hown hK hP 4 rfl rfl 4 (by decide) (htg _ q_1_47) (fun _ h9 => h9) rfl dX1_becomes_34 ?_
  refine va_put (D := D) (ci := 1) (v := .int (p1 4)) (ty := .int) (C := RX1) (T := TX1) (N := 12) hx hb htg inX1 tyX1 tyX1_ok nmX1 hown hK hP hD hS 0 rfl rfl 4 (by decide) (htg _ q_1_47) (fun _ h9 => h9) rfl (by decide +kernel) rfl rfl (Nat.le_of_ble_eq_true rfl) dX1_becomes_37 (fun H locs (hP : va_P D CL [(a0, e_X1 a1 a2 a3 (upd (upd (upd (upd (upd t 0 (p1 0)) 1 (p1 1)) 2 (p1 2)) 3 (p1 3)) 4 (p1 4))), (a1, eI cA 8 t_kinds), (a2, eI cA 8 t_as), (a3, eI cA 8 t_pitches), (p1a0, e_X1 p1a1 p1a2 p1a3 p1), (p1a1, eI cA 8 p1_kinds), (p1a2, eI cA 8 p1_as), (p1a3, eI cA 8 p1_pitches)] H) (hD : va_D A [(a0, e_X1 a1 a2 a3 (upd (upd (upd (upd (upd t 0 (p1 0)) 1 (p1 1)) 2 (p1 2)) 3 (p1 3)) 4 (p1 4))), (a1, eI cA 8 t_kinds), (a2, eI cA 8 t_as), (a3, eI cA 8 t_pitches), (p1a0, e_X1 p1a1 p1a2 p1a3 p1), (p1a1, eI cA 8 p1_kinds), (p1a2, eI cA 8 p1_as), (p1a3, eI cA 8 p1_pitches)]) hS => ?_)
  refine lv_aload_n hx hb dX1_becomes_40 rfl (lv_at hl 0 rfl) ?_
  refine lv_aload_n hx hb dX1_becomes_41 rfl (lv_at hl 1 rfl) ?_
  refine va_get (D := D) (ci := 1) (v := .int (p1 5)) (C := RX1) (T := TX1) (N := 12) hx hb htg inX1 hown hK hP 4 rfl rfl 5 (by decide) (htg _ q_1_51) (fun _ h9 => h9) rfl dX1_becomes_42 ?_
  refine va_put (D := D) (ci := 1) (v := .int (p1 5)) (ty := .int) (C := RX1) (T := TX1) (N := 12) hx hb htg inX1 tyX1 tyX1_ok nmX1 hown hK hP hD hS 0 rfl rfl 5 (by decide) (htg _ q_1_51) (fun _ h9 => h9) rfl (by decide +kernel) rfl rfl (Nat.le_of_ble_eq_true rfl) dX1_becomes_45 (fun H locs (hP : va_P D CL [(a0, e_X1 a1 a2 a3 (upd (upd (upd (upd (upd (upd t 0 (p1 0)) 1 (p1 1)) 2 (p1 2)) 3 (p1 3)) 4 (p1 4)) 5 (p1 5))), (a1, eI cA 8 t_kinds), (a2, eI cA 8 t_as), (a3, eI cA 8 t_pitches), (p1a0, e_X1 p1a1 p1a2 p1a3 p1), (p1a1, eI cA 8 p1_kinds), (p1a2, eI cA 8 p1_as), (p1a3, eI cA 8 p1_pitches)] H) (hD : va_D A [(a0, e_X1 a1 a2 a3 (upd (upd (upd (upd (upd (upd t 0 (p1 0)) 1 (p1 1)) 2 (p1 2)) 3 (p1 3)) 4 (p1 4)) 5 (p1 5))), (a1, eI cA 8 t_kinds), (a2, eI cA 8 t_as), (a3, eI cA 8 t_pitches), (p1a0, e_X1 p1a1 p1a2 p1a3 p1), (p1a1, eI cA 8 p1_kinds), (p1a2, eI cA 8 p1_as), (p1a3, eI cA 8 p1_pitches)]) hS => ?_)
  refine lv_aload_n hx hb dX1_becomes_48 rfl (lv_at hl 0 rfl) ?_
  refine lv_aload_n hx hb dX1_becomes_49 rfl (lv_at hl 1 rfl) ?_
  refine va_get (D := D) (ci := 1) (v := .int (p1 6)) (C := RX1) (T := TX1) (N := 12) hx hb htg inX1 hown hK hP 4 rfl rfl 6 (by decide) (htg _ q_1_53) (fun _ h9 => h9) rfl dX1_becomes_50 ?_
  refine va_put (D := D) (ci := 1) (v := .int (p1 6)) (ty := .int) (C := RX1) (T := TX1) (N := 12) hx hb htg inX1 tyX1 tyX1_ok nmX1 hown hK hP hD hS 0 rfl rfl 6 (by decide) (htg _ q_1_53) (fun _ h9 => h9) rfl (by decide +kernel) rfl rfl (Nat.le_of_ble_eq_true rfl) dX1_becomes_53 (fun H locs (hP : va_P D CL [(a0, e_X1 a1 a2 a3 (upd (upd (upd (upd (upd (upd (upd t 0 (p1 0)) 1 (p1 1)) 2 (p1 2)) 3 (p1 3)) 4 (p1 4)) 5 (p1 5)) 6 (p1 6))), (a1, eI cA 8 t_kinds), (a2, eI cA 8 t_as), (a3, eI cA 8 t_pitches), (p1a0, e_X1 p1a1 p1a2 p1a3 p1), (p1a1, eI cA 8 p1_kinds), (p1a2, eI cA 8 p1_as), (p1a3, eI cA 8 p1_pitches)] H) (hD : va_D A [(a0, e_X1 a1 a2 a3 (upd (upd (upd (upd (upd (upd (upd t 0 (p1 0)) 1 (p1 1)) 2 (p1 2)) 3 (p1 3)) 4 (p1 4)) 5 (p1 5)) 6 (p1 6))), (a1, eI cA 8 t_kinds), (a2, eI cA 8 t_as), (a3, eI cA 8 t_pitches), (p1a0, e_X1 p1a1 p1a2 p1a3 p1), (p1a1, eI cA 8 p1_kinds), (p1a2, eI cA 8 p1_as), (p1a3, eI cA 8 p1_pitches)]) hS => ?_)
  refine lv_aload_n hx hb dX1_becomes_56 rfl (lv_at hl 0 rfl) ?_
  refine lv_aload_n hx hb dX1_becomes_57 rfl (lv_at hl 1 rfl) ?_
  refine va_get (D := D) (ci := 1) (v := .int (p1 7)) (C := RX1) (T := TX1) (N := 12) hx hb htg inX1 hown hK hP 4 rfl rfl 7 (by decide) (htg _ q_1_55) (fun _ h9 => h9) rfl dX1_becomes_58 ?_
  refine va_put (D := D) (ci := 1) (v := .int (p1 7)) (ty := .int) (C := RX1) (T := TX1) (N := 12) hx hb htg inX1 tyX1 tyX1_ok nmX1 hown hK hP hD hS 0 rfl rfl 7 (by decide) (htg _ q_1_55) (fun _ h9 => h9) rfl (by decide +kernel) rfl rfl (Nat.le_of_ble_eq_true rfl) dX1_becomes_61 (fun H locs (hP : va_P D CL [(a0, e_X1 a1 a2 a3 (upd (upd (upd (upd (upd (upd (upd (upd t 0 (p1 0)) 1 (p1 1)) 2 (p1 2)) 3 (p1 3)) 4 (p1 4)) 5 (p1 5)) 6 (p1 6)) 7 (p1 7))), (a1, eI cA 8 t_kinds), (a2, eI cA 8 t_as), (a3, eI cA 8 t_pitches), (p1a0, e_X1 p1a1 p1a2 p1a3 p1), (p1a1, eI cA 8 p1_kinds), (p1a2, eI cA 8 p1_as), (p1a3, eI cA 8 p1_pitches)] H) (hD : va_D A [(a0, e_X1 a1 a2 a3 (upd (upd (upd (upd (upd (upd (upd (upd t 0 (p1 0)) 1 (p1 1)) 2 (p1 2)) 3 (p1 3)) 4 (p1 4)) 5 (p1 5)) 6 (p1 6)) 7 (p1 7))), (a1, eI cA 8 t_kinds), (a2, eI cA 8 t_as), (a3, eI cA 8 t_pitches), (p1a0, e_X1 p1a1 p1a2 p1a3 p1), (p1a1, eI cA 8 p1_kinds), (p1a2, eI cA 8 p1_as), (p1a3, eI cA 8 p1_pitches)]) hS => ?_)
  refine lv_aload_n hx hb dX1_becomes_64 rfl (lv_at hl 0 rfl) ?_
  refine lv_aload_n hx hb dX1_becomes_65 rfl (lv_at hl 1 rfl) ?_
  refine va_get (D := D) (ci := 1) (v := .int (p1 8)) (C := RX1) (T := TX1) (N := 12) hx hb htg inX1 hown hK hP 4 rfl rfl 8 (by decide) (htg _ q_1_57) (fun _ h9 => h9) rfl dX1_becomes_66 ?_
  refine va_put (D := D) (ci := 1) (v := .int (p1 8)) (ty := .int) (C := RX1) (T := TX1) (N := 12) hx hb htg inX1 tyX1 tyX1_ok nmX1 hown hK hP hD hS 0 rfl rfl 8 (by decide) (htg _ q_1_57) (fun _ h9 => h9) rfl (by decide +kernel) rfl rfl (Nat.le_of_ble_eq_true rfl) dX1_becomes_69 (fun H locs (hP : va_P D CL [(a0, e_X1 a1 a2 a3 (upd (upd (upd (upd (upd (upd (upd (upd (upd t 0 (p1 0)) 1 (p1 1)) 2 (p1 2)) 3 (p1 3)) 4 (p1 4)) 5 (p1 5)) 6 (p1 6)) 7 (p1 7)) 8 (p1 8))), (a1, eI cA 8 t_kinds), (a2, eI cA 8 t_as), (a3, eI cA 8 t_pitches), (p1a0, e_X1 p1a1 p1a2 p1a3 p1), (p1a1, eI cA 8 p1_kinds), (p1a2, eI cA 8 p1_as), (p1a3, eI cA 8 p1_pitches)] H) (hD : va_D A [(a0, e_X1 a1 a2 a3 (upd (upd (upd (upd (upd (upd (upd (upd (upd t 0 (p1 0)) 1 (p1 1)) 2 (p1 2)) 3 (p1 3)) 4 (p1 4)) 5 (p1 5)) 6 (p1 6)) 7 (p1 7)) 8 (p1 8))), (a1, eI cA 8 t_kinds), (a2, eI cA 8 t_as), (a3, eI cA 8 t_pitches), (p1a0, e_X1 p1a1 p1a2 p1a3 p1), (p1a1, eI cA 8 p1_kinds), (p1a2, eI cA 8 p1_as), (p1a3, eI cA 8 p1_pitches)]) hS => ?_)
  refine lv_iconst (v := (0 : Int32)) hx hb dX1_becomes_72 (by decide) ?_
  refine lv_istore_n (lv' := [(2, .int (0 : Int32)), (0, .ref a0), (1, .ref p1a0)]) hx hb dX1_becomes_73 rfl hl (by decide) rfl (fun ls hl => ?_)
  exact B_74 fu _ _ _ _ hm hP hD hS (lv_sub hl [1, 2, 0] rfl)
def b_X1_aOf_20 (fu : Nat) (t : Nat → Int32) (t_as : Nat → Int32) (s0 : Int32) : Option (Int32 × Unit) :=
  some (s0, ())
def m_X1_aOf (fu : Nat) (t : Nat → Int32) (t_as : Nat → Int32) (l1 : Int32) : Option (Int32 × Unit) :=
  (m_X5_isWithin fu l1 (0 : Int32) (7 : Int32)).bind fun o1 =>
  (if o1.1 = 0 then
    b_X1_aOf_20 fu t t_as (-1 : Int32)
  else
    gd (inb l1 8) (
    b_X1_aOf_20 fu t t_as (t_as l1.toNatClampNeg)))
abbrev rm_X1_aOf : Room := ({ frames := 1, cells := 0, slots := 0, locals := 22 } : Room)
abbrev w0_X1_aOf (cA : Nat → ClassId) (a0 : Nat) (a1 : Nat) (a2 : Nat) (a3 : Nat) (t : Nat → Int32) (t_as : Nat → Int32) : va_W := [(a0, e_X1 a1 a2 a3 t), (a2, eI cA 8 t_as)]
abbrev w1_X1_aOf (cA : Nat → ClassId) (a0 : Nat) (a1 : Nat) (a2 : Nat) (a3 : Nat) (t : Nat → Int32) (t_as : Nat → Int32) (u : Unit) : va_W := [(a0, e_X1 a1 a2 a3 t), (a2, eI cA 8 t_as)]
theorem hd_X1_aOf : yX1_aOf.cls = RX1 ∧ yX1_aOf.cls ≠ "java/lang/invoke/MethodHandle" ∧ yX1_aOf.cls ≠ "java/lang/invoke/VarHandle" ∧ (parseMethodDescriptor yX1_aOf.desc).map (fun d => d.parameters.length) = some 1 := by decide +kernel
set_option maxHeartbeats 40000000 in
set_option maxRecDepth 100000 in
theorem c_X1_aOf (l : Launch) (D : va_G) (cA : Nat → ClassId) (sz : Nat) (fu : Nat) (a0 : Nat) (a1 : Nat) (a2 : Nat) (a3 : Nat) (t : Nat → Int32) (t_as : Nat → Int32) (l1 : Int32) (out : Int32 × Unit) (hm : m_X1_aOf fu t t_as l1 = some out) : MI l yX1_aOf (wU yX1_aOf cX1_aOf 2 ((Option.some Jvm.ClassFile.FieldType.int))) rm_X1_aOf D cA sz [.ref a0, .int l1] (w0_X1_aOf cA a0 a1 a2 a3 t t_as) out (w1_X1_aOf cA a0 a1 a2 a3 t t_as) := by
  refine Met.ofW (cc := cX1_aOf) (maxL := 2) (ret := (Option.some Jvm.ClassFile.FieldType.int)) (by decide) rfl ?_
  intro p e s m args below meth c s₁ B hml hv
  obtain ⟨hargs, hsz, hP, hK, hD0, hN⟩ := hv
  have hx := B.exec
  have hb := B.bytes
  have hr := B.returns
  have htg : ∀ w ∈ gw, w.before args s = true := fun w h => atoms_spec (ws := wU yX1_aOf cX1_aOf 2 ((Option.some Jvm.ClassFile.FieldType.int))) B.pre w (List.mem_cons_of_mem _ h)
  have hown : s.vm.findClass RX1 = some m.cls := findClass_of_methodNamed B.named
  have hlocks := B.notSynchronized
  subst hsz
  have hD := hD0.self (sz := s.heap.size)
  have hA : ∀ q : Nat, s.heap.size ≤ q → va_A (w0_X1_aOf cA a0 a1 a2 a3 t t_as) s.heap.size q := fun q h => Or.inr h
  have hS : va_S (va_A (w0_X1_aOf cA a0 a1 a2 a3 t t_as) s.heap.size) s.heap s.heap [] := va_S.rf
  generalize va_A (w0_X1_aOf cA a0 a1 a2 a3 t t_as) s.heap.size = A at hA hD hS ⊢
  obtain ⟨Q, hQ⟩ : ∃ Q : State → Prop, Q = MQ below (va_Qi (fun (r : Int32) (u : Unit) => (r, u) = out) (pst0 D cA A (w1_X1_aOf cA a0 a1 a2 a3 t t_as)) A) args s 0 0 A := ⟨_, rfl⟩
  refine (?_ : W p l e rm_X1_aOf s m args below meth c s.heap [] 0 0 (MQ below (va_Qi (fun (r : Int32) (u : Unit) => (r, u) = out) (pst0 D cA A (w1_X1_aOf cA a0 a1 a2 a3 t t_as)) A) args s 0 0 A) (entryFrame m args 2))
  rw [← hQ]
  have hP : va_P D CL [(a0, e_X1 a1 a2 a3 t), (a2, eI cA 8 t_as)] s.heap := hP
  have hD : va_D A [(a0, e_X1 a1 a2 a3 t), (a2, eI cA 8 t_as)] := hD
  have B_20 : ∀ (s0 : Int32) (H : Heap) (locs : List Loc) (ls : Array Slot), b_X1_aOf_20 fu t t_as s0 = some out → va_P D CL [(a0, e_X1 a1 a2 a3 t), (a2, eI cA 8 t_as)] H → va_D A [(a0, e_X1 a1 a2 a3 t), (a2, eI cA 8 t_as)] → va_S A s.heap H locs → lv_has ls 2 [(0, .ref a0)] → W p l e rm_X1_aOf s m args below meth c H locs 0 0 Q (F0 m 20 ls [.int s0]) := by
    intro  s0 H locs ls hm hP hD hS hl
    unfold b_X1_aOf_20 at hm
    rw [hQ]
    exact W.iret (v := s0) hx hb hr (fun t9 ht hW => ⟨⟨s0, (), rfl, (Option.some.inj hm), by rw [ht]; exact hP, va_K.moved hW.alike hK, hD⟩, hS.F ht⟩) hS.2.2 dX1_aOf_20
  unfold m_X1_aOf at hm
  subst hargs
  have hl := lv_entry ([.ref a0, .int l1]) (n := 2) (Nat.le_of_ble_eq_true rfl)
  rw [lg_entry_eq]
  generalize (lg_sl ([.ref a0, .int l1]) ++ List.replicate (2 - (lg_sl ([.ref a0, .int l1])).length) Slot.unset).toArray = ls at hl ⊢
  have hl : lv_has ls 2 [(0, .ref a0), (1, .int l1)] := hl
  refine lv_iload_n hx hb dX1_aOf_0 rfl (lv_at hl 1 rfl) ?_
  refine lv_iconst (v := (0 : Int32)) hx hb dX1_aOf_1 (by decide) ?_
  refine lv_bipush (v := (7 : Int32)) hx hb dX1_aOf_2 (by decide) ?_
  obtain ⟨o1, ho2, hm⟩ := bd_s hm
  refine xr_i (wr := [(a0, e_X1 a1 a2 a3 t), (a2, eI cA 8 t_as)]) (wn := [(a0, e_X1 a1 a2 a3 t), (a2, eI cA 8 t_as)]) (va_runSN (As := [.int l1, .int (0 : Int32), .int (7 : Int32)]) (rest := []) ⟨hx, hb, hml, hown, htg⟩ (c_X5_isWithin l D cA _ fu l1 (0 : Int32) (7 : Int32) o1 ho2) ⟨va_cnB 3 htg (gU q_2_9) rfl rfl rfl (hN _ q_2_106) (htg _ q_1_1) hd_X5_isWithin.2 ⟨Nat.le_of_ble_eq_true rfl, Nat.le_of_ble_eq_true rfl⟩, htg _ q_2_8, trivial⟩ (xpS hN hK hP hD [] rfl (by decide)) rfl rfl hl.1 rfl (lv_room (Nat.le_of_ble_eq_true rfl)) dX1_aOf_4 ⟨Nat.zero_le _, Nat.zero_le _⟩) hP hD hS hA [] [0, 1] [0, 1] rfl rfl (by decide) (by decide) rfl (by decide) (fun H locs hP hD hS => ?_)
  refine lv_if_eq (tgt := 19) hx hb dX1_aOf_7 (by decide) (fun c3 => ?_) (fun c3 => ?_)
  · have hm := it_t c3 hm
    refine lv_iconst (v := (-1 : Int32)) hx hb dX1_aOf_19 (by decide) ?_
    exact B_20 _ _ _ _ hm hP hD hS (lv_sub hl [0] rfl)
  · have hm := it_f c3 hm
    refine lv_aload_n hx hb dX1_aOf_10 rfl (lv_at hl 0 rfl) ?_
    refine va_get (D := D) (ci := 1) (v := .ref a2) (C := RX1) (T := TX1) (N := 12) hx hb htg inX1 hown hK hP 0 rfl rfl 10 (by decide) (htg _ q_1_61) (fun _ h9 => h9) rfl dX1_aOf_11 ?_
    refine lv_iload_n hx hb dX1_aOf_14 rfl (lv_at hl 1 rfl) ?_
    obtain ⟨hi4, hm⟩ := gd_s hm
    refine va_iald hx hb hK hP 1 0 rfl rfl hi4 dX1_aOf_15 ?_
    refine lv_goto (tgt := 20) hx hb dX1_aOf_16 (by decide) ?_
    exact B_20 _ _ _ _ hm hP hD hS (lv_sub hl [0] rfl)
def m_X1_passDay (fu : Nat) (t : Nat → Int32) : Option ((Nat → Int32)) :=
  (m_X5_depthBehind fu (t 0) (t 1)).bind fun o1 =>
  (m_X5_dayBehind fu (t 2)).bind fun o3 =>
  some (upd (upd t 0 o1.1) 2 o3.1)
abbrev rm_X1_passDay : Room := ({ frames := 2, cells := 0, slots := 0, locals := 35 } : Room)
abbrev w0_X1_passDay (cA : Nat → ClassId) (a0 : Nat) (a1 : Nat) (a2 : Nat) (a3 : Nat) (t : Nat → Int32) : va_W := [(a0, e_X1 a1 a2 a3 t)]
abbrev w1_X1_passDay (cA : Nat → ClassId) (a0 : Nat) (a1 : Nat) (a2 : Nat) (a3 : Nat) (u : (Nat → Int32)) : va_W := [(a0, e_X1 a1 a2 a3 u)]
theorem hd_X1_passDay : yX1_passDay.cls = RX1 ∧ yX1_passDay.cls ≠ "java/lang/invoke/MethodHandle" ∧ yX1_passDay.cls ≠ "java/lang/invoke/VarHandle" ∧ (parseMethodDescriptor yX1_passDay.desc).map (fun d => d.parameters.length) = some 0 := by decide +kernel
set_option maxHeartbeats 40000000 in
set_option maxRecDepth 100000 in
theorem c_X1_passDay (l : Launch) (D : va_G) (cA : Nat → ClassId) (sz : Nat) (fu : Nat) (a0 : Nat) (a1 : Nat) (a2 : Nat) (a3 : Nat) (t : Nat → Int32) (out : (Nat → Int32)) (hm : m_X1_passDay fu t = some out) : MV l yX1_passDay (wU yX1_passDay cX1_passDay 1 ((Option.none : Option Jvm.ClassFile.FieldType))) rm_X1_passDay D cA sz [.ref a0] (w0_X1_passDay cA a0 a1 a2 a3 t) out (w1_X1_passDay cA a0 a1 a2 a3) := by
  refine Met.ofW (cc := cX1_passDay) (maxL := 1) (ret := (Option.none : Option Jvm.ClassFile.FieldType)) (by decide) rfl ?_
  intro p e s m args below meth c s₁ B hml hv
  obtain ⟨hargs, hsz, hP, hK, hD0, hN⟩ := hv
  have hx := B.exec
  have hb := B.bytes
  have hr := B.returns
  have htg : ∀ w ∈ gw, w.before args s = true := fun w h => atoms_spec (ws := wU yX1_passDay cX1_passDay 1 ((Option.none : Option Jvm.ClassFile.FieldType))) B.pre w (List.mem_cons_of_mem _ h)
  have hown : s.vm.findClass RX1 = some m.cls := findClass_of_methodNamed B.named
  have hlocks := B.notSynchronized
  subst hsz
  have hD := hD0.self (sz := s.heap.size)
  have hA : ∀ q : Nat, s.heap.size ≤ q → va_A (w0_X1_passDay cA a0 a1 a2 a3 t) s.heap.size q := fun q h => Or.inr h
  have hS : va_S (va_A (w0_X1_passDay cA a0 a1 a2 a3 t) s.heap.size) s.heap s.heap [] := va_S.rf
  generalize va_A (w0_X1_passDay cA a0 a1 a2 a3 t) s.heap.size = A at hA hD hS ⊢
  obtain ⟨Q, hQ⟩ : ∃ Q : State → Prop, Q = MQ below (va_Qv (fun (u : (Nat → Int32)) => u = out) (pst0 D cA A (w1_X1_passDay cA a0 a1 a2 a3)) A) args s 0 0 A := ⟨_, rfl⟩
  refine (?_ : W p l e rm_X1_passDay s m args below meth c s.heap [] 0 0 (MQ below (va_Qv (fun (u : (Nat → Int32)) => u = out) (pst0 D cA A (w1_X1_passDay cA a0 a1 a2 a3)) A) args s 0 0 A) (entryFrame m args 1))
  rw [← hQ]
  have hP : va_P D CL [(a0, e_X1 a1 a2 a3 t)] s.heap := hP
  have hD : va_D A [(a0, e_X1 a1 a2 a3 t)] := hD
  unfold m_X1_passDay at hm
  subst hargs
  have hl := lv_entry ([.ref a0]) (n := 1) (Nat.le_of_ble_eq_true rfl)
  rw [lg_entry_eq]
  generalize (lg_sl ([.ref a0]) ++ List.replicate (1 - (lg_sl ([.ref a0])).length) Slot.unset).toArray = ls at hl ⊢
  have hl : lv_has ls 1 [(0, .ref a0)] := hl
  refine lv_aload_n hx hb dX1_passDay_0 rfl (lv_at hl 0 rfl) ?_
  refine lv_aload_n hx hb dX1_passDay_1 rfl (lv_at hl 0 rfl) ?_
  refine va_get (D := D) (ci := 1) (v := .int (t 0)) (C := RX1) (T := TX1) (N := 12) hx hb htg inX1 hown hK hP 0 rfl rfl 0 (by decide) (htg _ q_1_31) (fun _ h9 => h9) rfl dX1_passDay_2 ?_
  refine lv_aload_n hx hb dX1_passDay_5 rfl (lv_at hl 0 rfl) ?_
  refine va_get (D := D) (ci := 1) (v := .int (t 1)) (C := RX1) (T := TX1) (N := 12) hx hb htg inX1 hown hK hP 0 rfl rfl 1 (by decide) (htg _ q_1_35) (fun _ h9 => h9) rfl dX1_passDay_6 ?_
  obtain ⟨o1, ho2, hm⟩ := bd_s hm
  refine xr_i (wr := [(a0, e_X1 a1 a2 a3 t)]) (wn := [(a0, e_X1 a1 a2 a3 t)]) (va_runSN (As := [.int (t 0), .int (t 1)]) (rest := [.ref a0]) ⟨hx, hb, hml, hown, htg⟩ (c_X5_depthBehind l D cA _ fu (t 0) (t 1) o1 ho2) ⟨va_cnB 2 htg (gU q_3_154) rfl rfl rfl (hN _ q_4_144) (htg _ q_1_1) hd_X5_depthBehind.2 ⟨Nat.le_of_ble_eq_true rfl, Nat.le_of_ble_eq_true rfl⟩, htg _ q_3_153, trivial⟩ (xpS hN hK hP hD [] rfl (by decide)) rfl rfl hl.1 rfl (lv_room (Nat.le_of_ble_eq_true rfl)) dX1_passDay_9 ⟨Nat.zero_le _, Nat.zero_le _⟩) hP hD hS hA [] [0] [0] rfl rfl (by decide) (by decide) rfl (by decide) (fun H locs hP hD hS => ?_)
  refine va_put (D := D) (ci := 1) (v := .int o1.1) (ty := .int) (C := RX1) (T := TX1) (N := 12) hx hb htg inX1 tyX1 tyX1_ok nmX1 hown hK hP hD hS 0 rfl rfl 0 (by decide) (htg _ q_1_31) (fun _ h9 => h9) rfl (by decide +kernel) rfl rfl (Nat.le_of_ble_eq_true rfl) dX1_passDay_12 (fun H locs (hP : va_P D CL [(a0, e_X1 a1 a2 a3 (upd t 0 o1.1))] H) (hD : va_D A [(a0, e_X1 a1 a2 a3 (upd t 0 o1.1))]) hS => ?_)
  refine lv_aload_n hx hb dX1_passDay_15 rfl (lv_at hl 0 rfl) ?_
  refine lv_aload_n hx hb dX1_passDay_16 rfl (lv_at hl 0 rfl) ?_
  refine va_get (D := D) (ci := 1) (v := .int (t 2)) (C := RX1) (T := TX1) (N := 12) hx hb htg inX1 hown hK hP 0 rfl rfl 2 (by decide) (htg _ q_1_39) (fun _ h9 => h9) rfl dX1_passDay_17 ?_
  obtain ⟨o3, ho4, hm⟩ := bd_s hm
  refine xr_i (wr := [(a0, e_X1 a1 a2 a3 (upd t 0 o1.1))]) (wn := [(a0, e_X1 a1 a2 a3 (upd t 0 o1.1))]) (va_runSN (As := [.int (t 2)]) (rest := [.ref a0]) ⟨hx, hb, hml, hown, htg⟩ (c_X5_dayBehind l D cA _ fu (t 2) o3 ho4) ⟨va_cnB 1 htg (gU q_3_163) rfl rfl rfl (hN _ q_4_145) (htg _ q_1_1) hd_X5_dayBehind.2 ⟨Nat.le_of_ble_eq_true rfl, Nat.le_of_ble_eq_true rfl⟩, htg _ q_3_162, trivial⟩ (xpS hN hK hP hD [] rfl (by decide)) rfl rfl hl.1 rfl (lv_room (Nat.le_of_ble_eq_true rfl)) dX1_passDay_20 ⟨Nat.zero_le _, Nat.zero_le _⟩) hP hD hS hA [] [0] [0] rfl rfl (by decide) (by decide) rfl (by decide) (fun H locs hP hD hS => ?_)
  refine va_put (D := D) (ci := 1) (v := .int o3.1) (ty := .int) (C := RX1) (T := TX1) (N := 12) hx hb htg inX1 tyX1 tyX1_ok nmX1 hown hK hP hD hS 0 rfl rfl 2 (by decide) (htg _ q_1_39) (fun _ h9 => h9) rfl (by decide +kernel) rfl rfl (Nat.le_of_ble_eq_true rfl) dX1_passDay_23 (fun H locs (hP : va_P D CL [(a0, e_X1 a1 a2 a3 (upd (upd t 0 o1.1) 2 o3.1))] H) (hD : va_D A [(a0, e_X1 a1 a2 a3 (upd (upd t 0 o1.1) 2 o3.1))]) hS => ?_)
  rw [hQ]
  exact W.vret hx hb hr (fun t9 ht hW => ⟨⟨(upd (upd t 0 o1.1) 2 o3.1), rfl, (Option.some.inj hm), by rw [ht]; exact hP, va_K.moved hW.alike hK, hD⟩, hS.F ht⟩) hS.2.2 dX1_passDay_26
def b_X1_draw_32 (fu : Nat) (s0 : Int32) (t : Nat → Int32) : Option (Int32 × (Nat → Int32)) :=
  some (s0, t)
def m_X1_draw (fu : Nat) (t : Nat → Int32) (l1 : Int32) : Option (Int32 × (Nat → Int32)) :=
  (if l1 ≤ 0 then
    b_X1_draw_32 fu (0 : Int32) (upd t 7 ((t 7 * (1103515245 : Int32)) + (12345 : Int32)))
  else
    gd (¬ l1 = 0) (
    b_X1_draw_32 fu (((((t 7 * (1103515245 : Int32)) + (12345 : Int32)).toUInt32 >>> ((16 : Int32).toUInt32 &&& Int32.toUInt32 31)).toInt32) - ((((t 7 * (1103515245 : Int32)) + (12345 : Int32)).toUInt32 >>> ((16 : Int32).toUInt32 &&& Int32.toUInt32 31)).toInt32) / l1 * l1) (upd t 7 ((t 7 * (1103515245 : Int32)) + (12345 : Int32)))))
abbrev rm_X1_draw : Room := ({ frames := 0, cells := 0, slots := 0, locals := 0 } : Room)
abbrev w0_X1_draw (cA : Nat → ClassId) (a0 : Nat) (a1 : Nat) (a2 : Nat) (a3 : Nat) (t : Nat → Int32) : va_W := [(a0, e_X1 a1 a2 a3 t)]
abbrev w1_X1_draw (cA : Nat → ClassId) (a0 : Nat) (a1 : Nat) (a2 : Nat) (a3 : Nat) (u : (Nat → Int32)) : va_W := [(a0, e_X1 a1 a2 a3 u)]
theorem hd_X1_draw : yX1_draw.cls = RX1 ∧ yX1_draw.cls ≠ "java/lang/invoke/MethodHandle" ∧ yX1_draw.cls ≠ "java/lang/invoke/VarHandle" ∧ (parseMethodDescriptor yX1_draw.desc).map (fun d => d.parameters.length) = some 1 := by decide +kernel
set_option maxHeartbeats 40000000 in
set_option maxRecDepth 100000 in
theorem c_X1_draw (l : Launch) (D : va_G) (cA : Nat → ClassId) (sz : Nat) (fu : Nat) (a0 : Nat) (a1 : Nat) (a2 : Nat) (a3 : Nat) (t : Nat → Int32) (l1 : Int32) (out : Int32 × (Nat → Int32)) (hm : m_X1_draw fu t l1 = some out) : MI l yX1_draw (wU yX1_draw cX1_draw 2 ((Option.some Jvm.ClassFile.FieldType.int))) rm_X1_draw D cA sz [.ref a0, .int l1] (w0_X1_draw cA a0 a1 a2 a3 t) out (w1_X1_draw cA a0 a1 a2 a3) := by
  refine Met.ofW (cc := cX1_draw) (maxL := 2) (ret := (Option.some Jvm.ClassFile.FieldType.int)) (by decide) rfl ?_
  intro p e s m args below meth c s₁ B hml hv
  obtain ⟨hargs, hsz, hP, hK, hD0, hN⟩ := hv
  have hx := B.exec
  have hb := B.bytes
  have hr := B.returns
  have htg : ∀ w ∈ gw, w.before args s = true := fun w h => atoms_spec (ws := wU yX1_draw cX1_draw 2 ((Option.some Jvm.ClassFile.FieldType.int))) B.pre w (List.mem_cons_of_mem _ h)
  have hown : s.vm.findClass RX1 = some m.cls := findClass_of_methodNamed B.named
  have hlocks := B.notSynchronized
  subst hsz
  have hD := hD0.self (sz := s.heap.size)
  have hA : ∀ q : Nat, s.heap.size ≤ q → va_A (w0_X1_draw cA a0 a1 a2 a3 t) s.heap.size q := fun q h => Or.inr h
  have hS : va_S (va_A (w0_X1_draw cA a0 a1 a2 a3 t) s.heap.size) s.heap s.heap [] := va_S.rf
  generalize va_A (w0_X1_draw cA a0 a1 a2 a3 t) s.heap.size = A at hA hD hS ⊢
  obtain ⟨Q, hQ⟩ : ∃ Q : State → Prop, Q = MQ below (va_Qi (fun (r : Int32) (u : (Nat → Int32)) => (r, u) = out) (pst0 D cA A (w1_X1_draw cA a0 a1 a2 a3)) A) args s 0 0 A := ⟨_, rfl⟩
  refine (?_ : W p l e rm_X1_draw s m args below meth c s.heap [] 0 0 (MQ below (va_Qi (fun (r : Int32) (u : (Nat → Int32)) => (r, u) = out) (pst0 D cA A (w1_X1_draw cA a0 a1 a2 a3)) A) args s 0 0 A) (entryFrame m args 2))
  rw [← hQ]
  have hP : va_P D CL [(a0, e_X1 a1 a2 a3 t)] s.heap := hP
  have hD : va_D A [(a0, e_X1 a1 a2 a3 t)] := hD
  have B_32 : ∀ (s0 : Int32) (t : Nat → Int32) (H : Heap) (locs : List Loc) (ls : Array Slot), b_X1_draw_32 fu s0 t = some out → va_P D CL [(a0, e_X1 a1 a2 a3 t)] H → va_D A [(a0, e_X1 a1 a2 a3 t)] → va_S A s.heap H locs → lv_has ls 2 [(0, .ref a0)] → W p l e rm_X1_draw s m args below meth c H locs 0 0 Q (F0 m 32 ls [.int s0]) := by
    intro  s0 t H locs ls hm hP hD hS hl
    unfold b_X1_draw_32 at hm
    rw [hQ]
    exact W.iret (v := s0) hx hb hr (fun t9 ht hW => ⟨⟨s0, t, rfl, (Option.some.inj hm), by rw [ht]; exact hP, va_K.moved hW.alike hK, hD⟩, hS.F ht⟩) hS.2.2 dX1_draw_32
  unfold m_X1_draw at hm
  subst hargs
  have hl := lv_entry ([.ref a0, .int l1]) (n := 2) (Nat.le_of_ble_eq_true rfl)
  rw [lg_entry_eq]
  generalize (lg_sl ([.ref a0, .int l1]) ++ List.replicate (2 - (lg_sl ([.ref a0, .int l1])).length) Slot.unset).toArray = ls at hl ⊢
  have hl : lv_has ls 2 [(0, .ref a0), (1, .int l1)] := hl
  refine lv_aload_n hx hb dX1_draw_0 rfl (lv_at hl 0 rfl) ?_
  refine lv_aload_n hx hb dX1_draw_1 rfl (lv_at hl 0 rfl) ?_
  refine va_get (D := D) (ci := 1) (v := .int (t 7)) (C := RX1) (T := TX1) (N := 12) hx hb htg inX1 hown hK hP 0 rfl rfl 7 (by decide) (htg _ q_1_55) (fun _ h9 => h9) rfl dX1_draw_2 ?_
  refine lv_ldc (v := (1103515245 : Int32)) hx hb hown (htg _ q_4_154) dX1_draw_5 ?_
  refine lv_imul hx hb dX1_draw_7 ?_
  refine lv_sipush (v := (12345 : Int32)) hx hb dX1_draw_8 (by decide) ?_
  refine lv_iadd hx hb dX1_draw_11 ?_
  refine va_put (D := D) (ci := 1) (v := .int ((t 7 * (1103515245 : Int32)) + (12345 : Int32))) (ty := .int) (C := RX1) (T := TX1) (N := 12) hx hb htg inX1 tyX1 tyX1_ok nmX1 hown hK hP hD hS 0 rfl rfl 7 (by decide) (htg _ q_1_55) (fun _ h9 => h9) rfl (by decide +kernel) rfl rfl (Nat.le_of_ble_eq_true rfl) dX1_draw_12 (fun H locs (hP : va_P D CL [(a0, e_X1 a1 a2 a3 (upd t 7 ((t 7 * (1103515245 : Int32)) + (12345 : Int32))))] H) (hD : va_D A [(a0, e_X1 a1 a2 a3 (upd t 7 ((t 7 * (1103515245 : Int32)) + (12345 : Int32))))]) hS => ?_)
  refine lv_iload_n hx hb dX1_draw_15 rfl (lv_at hl 1 rfl) ?_
  refine lv_if_le (tgt := 31) hx hb dX1_draw_16 (by decide) (fun c1 => ?_) (fun c1 => ?_)
  · have hm := it_t c1 hm
    refine lv_iconst (v := (0 : Int32)) hx hb dX1_draw_31 (by decide) ?_
    exact B_32 _ _ _ _ _ hm hP hD hS (lv_sub hl [0] rfl)
  · have hm := it_f c1 hm
    refine lv_aload_n hx hb dX1_draw_19 rfl (lv_at hl 0 rfl) ?_
    refine va_get (D := D) (ci := 1) (v := .int ((t 7 * (1103515245 : Int32)) + (12345 : Int32))) (C := RX1) (T := TX1) (N := 12) hx hb htg inX1 hown hK hP 0 rfl rfl 7 (by decide) (htg _ q_1_55) (fun _ h9 => h9) rfl dX1_draw_20 ?_
    refine lv_bipush (v := (16 : Int32)) hx hb dX1_draw_23 (by decide) ?_
    refine lv_iushr hx hb dX1_draw_25 rfl ?_
    refine lv_iload_n hx hb dX1_draw_26 rfl (lv_at hl 1 rfl) ?_
    obtain ⟨hz2, hm⟩ := gd_s hm
    refine lv_irem hx hb dX1_draw_27 hz2 ?_
    refine lv_goto (tgt := 32) hx hb dX1_draw_28 (by decide) ?_
    exact B_32 _ _ _ _ _ hm hP hD hS (lv_sub hl [0] rfl)
