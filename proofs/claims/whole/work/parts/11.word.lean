def m_X4_clear (fu : Nat) (t : Nat → Int32) : Option ((Nat → Int32)) :=
  some (upd t 1 (0 : Int32))
abbrev rm_X4_clear : Room := ({ frames := 0, cells := 0, slots := 0, locals := 0 } : Room)
abbrev w0_X4_clear (cA : Nat → ClassId) (a0 : Nat) (a1 : Nat) (t : Nat → Int32) : va_W := [(a0, e_X4 a1 t)]
abbrev w1_X4_clear (cA : Nat → ClassId) (a0 : Nat) (a1 : Nat) (u : (Nat → Int32)) : va_W := [(a0, e_X4 a1 u)]
theorem hd_X4_clear : yX4_clear.cls = RX4 ∧ yX4_clear.cls ≠ "java/lang/invoke/MethodHandle" ∧ yX4_clear.cls ≠ "java/lang/invoke/VarHandle" ∧ (parseMethodDescriptor yX4_clear.desc).map (fun d => d.parameters.length) = some 0 := by decide +kernel
set_option maxHeartbeats 40000000 in
set_option maxRecDepth 100000 in
theorem c_X4_clear (l : Launch) (D : va_G) (cA : Nat → ClassId) (sz : Nat) (fu : Nat) (a0 : Nat) (a1 : Nat) (t : Nat → Int32) (out : (Nat → Int32)) (hm : m_X4_clear fu t = some out) : MV l yX4_clear (wU yX4_clear cX4_clear 1 ((Option.none : Option Jvm.ClassFile.FieldType))) rm_X4_clear D cA sz [.ref a0] (w0_X4_clear cA a0 a1 t) out (w1_X4_clear cA a0 a1) := by
  refine Met.ofW (cc := cX4_clear) (maxL := 1) (ret := (Option.none : Option Jvm.ClassFile.FieldType)) (by decide) rfl ?_
  intro p e s m args below meth c s₁ B hml hv
  obtain ⟨hargs, hsz, hP, hK, hD0, hN⟩ := hv
  have hx := B.exec
  have hb := B.bytes
  have hr := B.returns
  have htg : ∀ w ∈ gw, w.before args s = true := fun w h => atoms_spec (ws := wU yX4_clear cX4_clear 1 ((Option.none : Option Jvm.ClassFile.FieldType))) B.pre w (List.mem_cons_of_mem _ h)
  have hown : s.vm.findClass RX4 = some m.cls := findClass_of_methodNamed B.named
  have hlocks := B.notSynchronized
  subst hsz
  have hD := hD0.self (sz := s.heap.size)
  have hA : ∀ q : Nat, s.heap.size ≤ q → va_A (w0_X4_clear cA a0 a1 t) s.heap.size q := fun q h => Or.inr h
  have hS : va_S (va_A (w0_X4_clear cA a0 a1 t) s.heap.size) s.heap s.heap [] := va_S.rf
  generalize va_A (w0_X4_clear cA a0 a1 t) s.heap.size = A at hA hD hS ⊢
  obtain ⟨Q, hQ⟩ : ∃ Q : State → Prop, Q = MQ below (va_Qv (fun (u : (Nat → Int32)) => u = out) (pst0 D cA A (w1_X4_clear cA a0 a1)) A) args s 0 0 A := ⟨_, rfl⟩
  refine (?_ : W p l e rm_X4_clear s m args below meth c s.heap [] 0 0 (MQ below (va_Qv (fun (u : (Nat → Int32)) => u = out) (pst0 D cA A (w1_X4_clear cA a0 a1)) A) args s 0 0 A) (entryFrame m args 1))
  rw [← hQ]
  have hP : va_P D CL [(a0, e_X4 a1 t)] s.heap := hP
  have hD : va_D A [(a0, e_X4 a1 t)] := hD
  unfold m_X4_clear at hm
  subst hargs
  have hl := lv_entry ([.ref a0]) (n := 1) (Nat.le_of_ble_eq_true rfl)
  rw [lg_entry_eq]
  generalize (lg_sl ([.ref a0]) ++ List.replicate (1 - (lg_sl ([.ref a0])).length) Slot.unset).toArray = ls at hl ⊢
  have hl : lv_has ls 1 [(0, .ref a0)] := hl
  refine lv_aload_n hx hb dX4_clear_0 rfl (lv_at hl 0 rfl) ?_
  refine lv_iconst (v := (0 : Int32)) hx hb dX4_clear_1 (by decide) ?_
  refine va_put (D := D) (ci := 4) (v := .int (0 : Int32)) (ty := .int) (C := RX4) (T := TX4) (N := 2) hx hb htg inX4 tyX4 tyX4_ok nmX4 hown hK hP hD hS 0 rfl rfl 1 (by decide) (htg _ q_1_180) (fun _ h9 => h9) rfl (by decide +kernel) rfl rfl (Nat.le_of_ble_eq_true rfl) dX4_clear_2 (fun H locs (hP : va_P D CL [(a0, e_X4 a1 (upd t 1 (0 : Int32)))] H) (hD : va_D A [(a0, e_X4 a1 (upd t 1 (0 : Int32)))]) hS => ?_)
  rw [hQ]
  exact W.vret hx hb hr (fun t9 ht hW => ⟨⟨(upd t 1 (0 : Int32)), rfl, (Option.some.inj hm), by rw [ht]; exact hP, va_K.moved hW.alike hK, hD⟩, hS.F ht⟩) hS.2.2 dX4_clear_5
def b_X4_add_33 (fu : Nat) (t : Nat → Int32) (t_sounds : Nat → Int32) : Option ((Nat → Int32) × (Nat → Int32)) :=
  some (t, t_sounds)
def m_X4_add (fu : Nat) (t : Nat → Int32) (t_sounds : Nat → Int32) (l1 : Int32) : Option ((Nat → Int32) × (Nat → Int32)) :=
  (m_X5_isWithin fu (t 1) (0 : Int32) (11 : Int32)).bind fun o1 =>
  (if o1.1 = 0 then
    b_X4_add_33 fu t t_sounds
  else
    gd (inb (t 1) 12) (
    b_X4_add_33 fu (upd t 1 (t 1 + (1 : Int32))) (upd t_sounds (t 1).toNatClampNeg l1)))
abbrev rm_X4_add : Room := ({ frames := 1, cells := 0, slots := 0, locals := 22 } : Room)
abbrev w0_X4_add (cA : Nat → ClassId) (a0 : Nat) (a1 : Nat) (t : Nat → Int32) (t_sounds : Nat → Int32) : va_W := [(a0, e_X4 a1 t), (a1, eI cA 12 t_sounds)]
abbrev w1_X4_add (cA : Nat → ClassId) (a0 : Nat) (a1 : Nat) (u : (Nat → Int32) × (Nat → Int32)) : va_W := [(a0, e_X4 a1 u.1), (a1, eI cA 12 u.2)]
theorem hd_X4_add : yX4_add.cls = RX4 ∧ yX4_add.cls ≠ "java/lang/invoke/MethodHandle" ∧ yX4_add.cls ≠ "java/lang/invoke/VarHandle" ∧ (parseMethodDescriptor yX4_add.desc).map (fun d => d.parameters.length) = some 1 := by decide +kernel
set_option maxHeartbeats 40000000 in
set_option maxRecDepth 100000 in
theorem c_X4_add (l : Launch) (D : va_G) (cA : Nat → ClassId) (sz : Nat) (fu : Nat) (a0 : Nat) (a1 : Nat) (t : Nat → Int32) (t_sounds : Nat → Int32) (l1 : Int32) (out : (Nat → Int32) × (Nat → Int32)) (hm : m_X4_add fu t t_sounds l1 = some out) : MV l yX4_add (wU yX4_add cX4_add 2 ((Option.none : Option Jvm.ClassFile.FieldType))) rm_X4_add D cA sz [.ref a0, .int l1] (w0_X4_add cA a0 a1 t t_sounds) out (w1_X4_add cA a0 a1) := by
  refine Met.ofW (cc := cX4_add) (maxL := 2) (ret := (Option.none : Option Jvm.ClassFile.FieldType)) (by decide) rfl ?_
  intro p e s m args below meth c s₁ B hml hv
  obtain ⟨hargs, hsz, hP, hK, hD0, hN⟩ := hv
  have hx := B.exec
  have hb := B.bytes
  have hr := B.returns
  have htg : ∀ w ∈ gw, w.before args s = true := fun w h => atoms_spec (ws := wU yX4_add cX4_add 2 ((Option.none : Option Jvm.ClassFile.FieldType))) B.pre w (List.mem_cons_of_mem _ h)
  have hown : s.vm.findClass RX4 = some m.cls := findClass_of_methodNamed B.named
  have hlocks := B.notSynchronized
  subst hsz
  have hD := hD0.self (sz := s.heap.size)
  have hA : ∀ q : Nat, s.heap.size ≤ q → va_A (w0_X4_add cA a0 a1 t t_sounds) s.heap.size q := fun q h => Or.inr h
  have hS : va_S (va_A (w0_X4_add cA a0 a1 t t_sounds) s.heap.size) s.heap s.heap [] := va_S.rf
  generalize va_A (w0_X4_add cA a0 a1 t t_sounds) s.heap.size = A at hA hD hS ⊢
  obtain ⟨Q, hQ⟩ : ∃ Q : State → Prop, Q = MQ below (va_Qv (fun (u : (Nat → Int32) × (Nat → Int32)) => u = out) (pst0 D cA A (w1_X4_add cA a0 a1)) A) args s 0 0 A := ⟨_, rfl⟩
  refine (?_ : W p l e rm_X4_add s m args below meth c s.heap [] 0 0 (MQ below (va_Qv (fun (u : (Nat → Int32) × (Nat → Int32)) => u = out) (pst0 D cA A (w1_X4_add cA a0 a1)) A) args s 0 0 A) (entryFrame m args 2))
  rw [← hQ]
  have hP : va_P D CL [(a0, e_X4 a1 t), (a1, eI cA 12 t_sounds)] s.heap := hP
  have hD : va_D A [(a0, e_X4 a1 t), (a1, eI cA 12 t_sounds)] := hD
  have B_33 : ∀ (t : Nat → Int32) (t_sounds : Nat → Int32) (H : Heap) (locs : List Loc) (ls : Array Slot), b_X4_add_33 fu t t_sounds = some out → va_P D CL [(a0, e_X4 a1 t), (a1, eI cA 12 t_sounds)] H → va_D A [(a0, e_X4 a1 t), (a1, eI cA 12 t_sounds)] → va_S A s.heap H locs → lv_has ls 2 [(0, .ref a0)] → W p l e rm_X4_add s m args below meth c H locs 0 0 Q (F0 m 33 ls []) := by
    intro  t t_sounds H locs ls hm hP hD hS hl
    unfold b_X4_add_33 at hm
    rw [hQ]
    exact W.vret hx hb hr (fun t9 ht hW => ⟨⟨(t, t_sounds), rfl, (Option.some.inj hm), by rw [ht]; exact hP, va_K.moved hW.alike hK, hD⟩, hS.F ht⟩) hS.2.2 dX4_add_33
  unfold m_X4_add at hm
  subst hargs
  have hl := lv_entry ([.ref a0, .int l1]) (n := 2) (Nat.le_of_ble_eq_true rfl)
  rw [lg_entry_eq]
  generalize (lg_sl ([.ref a0, .int l1]) ++ List.replicate (2 - (lg_sl ([.ref a0, .int l1])).length) Slot.unset).toArray = ls at hl ⊢
  have hl : lv_has ls 2 [(0, .ref a0), (1, .int l1)] := hl
  refine lv_aload_n hx hb dX4_add_0 rfl (lv_at hl 0 rfl) ?_
  refine va_get (D := D) (ci := 4) (v := .int (t 1)) (C := RX4) (T := TX4) (N := 2) hx hb htg inX4 hown hK hP 0 rfl rfl 1 (by decide) (htg _ q_1_180) (fun _ h9 => h9) rfl dX4_add_1 ?_
  refine lv_iconst (v := (0 : Int32)) hx hb dX4_add_4 (by decide) ?_
  refine lv_bipush (v := (11 : Int32)) hx hb dX4_add_5 (by decide) ?_
  obtain ⟨o1, ho2, hm⟩ := bd_s hm
  refine xr_i (wr := [(a0, e_X4 a1 t), (a1, eI cA 12 t_sounds)]) (wn := [(a0, e_X4 a1 t), (a1, eI cA 12 t_sounds)]) (va_runSN (As := [.int (t 1), .int (0 : Int32), .int (11 : Int32)]) (rest := []) ⟨hx, hb, hml, hown, htg⟩ (c_X5_isWithin l D cA _ fu (t 1) (0 : Int32) (11 : Int32) o1 ho2) ⟨va_cnB 3 htg (gU q_2_9) rfl rfl rfl (hN _ q_2_122) (htg _ q_1_1) hd_X5_isWithin.2 ⟨Nat.le_of_ble_eq_true rfl, Nat.le_of_ble_eq_true rfl⟩, htg _ q_2_8, trivial⟩ (xpS hN hK hP hD [] rfl (by decide)) rfl rfl hl.1 rfl (lv_room (Nat.le_of_ble_eq_true rfl)) dX4_add_7 ⟨Nat.zero_le _, Nat.zero_le _⟩) hP hD hS hA [] [0, 1] [0, 1] rfl rfl (by decide) (by decide) rfl (by decide) (fun H locs hP hD hS => ?_)
  refine lv_if_eq (tgt := 33) hx hb dX4_add_10 (by decide) (fun c3 => ?_) (fun c3 => ?_)
  · have hm := it_t c3 hm
    exact B_33 _ _ _ _ _ hm hP hD hS (lv_sub hl [0] rfl)
  · have hm := it_f c3 hm
    refine lv_aload_n hx hb dX4_add_13 rfl (lv_at hl 0 rfl) ?_
    refine va_get (D := D) (ci := 4) (v := .ref a1) (C := RX4) (T := TX4) (N := 2) hx hb htg inX4 hown hK hP 0 rfl rfl 0 (by decide) (htg _ q_1_179) (fun _ h9 => h9) rfl dX4_add_14 ?_
    refine lv_aload_n hx hb dX4_add_17 rfl (lv_at hl 0 rfl) ?_
    refine va_get (D := D) (ci := 4) (v := .int (t 1)) (C := RX4) (T := TX4) (N := 2) hx hb htg inX4 hown hK hP 0 rfl rfl 1 (by decide) (htg _ q_1_180) (fun _ h9 => h9) rfl dX4_add_18 ?_
    refine lv_iload_n hx hb dX4_add_21 rfl (lv_at hl 1 rfl) ?_
    obtain ⟨hi4, hm⟩ := gd_s hm
    refine va_iast hx hb hK hP hD hS 1 0 rfl rfl hi4 dX4_add_22 (fun H locs (hP : va_P D CL [(a0, e_X4 a1 t), (a1, eI cA 12 (upd t_sounds (t 1).toNatClampNeg l1))] H) (hD : va_D A [(a0, e_X4 a1 t), (a1, eI cA 12 (upd t_sounds (t 1).toNatClampNeg l1))]) hS => ?_)
    refine lv_aload_n hx hb dX4_add_23 rfl (lv_at hl 0 rfl) ?_
    refine lv_dup hx hb dX4_add_24 rfl ?_
    refine va_get (D := D) (ci := 4) (v := .int (t 1)) (C := RX4) (T := TX4) (N := 2) hx hb htg inX4 hown hK hP 0 rfl rfl 1 (by decide) (htg _ q_1_180) (fun _ h9 => h9) rfl dX4_add_25 ?_
    refine lv_iconst (v := (1 : Int32)) hx hb dX4_add_28 (by decide) ?_
    refine lv_iadd hx hb dX4_add_29 ?_
    refine va_put (D := D) (ci := 4) (v := .int (t 1 + (1 : Int32))) (ty := .int) (C := RX4) (T := TX4) (N := 2) hx hb htg inX4 tyX4 tyX4_ok nmX4 hown hK hP hD hS 0 rfl rfl 1 (by decide) (htg _ q_1_180) (fun _ h9 => h9) rfl (by decide +kernel) rfl rfl (Nat.le_of_ble_eq_true rfl) dX4_add_30 (fun H locs (hP : va_P D CL [(a0, e_X4 a1 (upd t 1 (t 1 + (1 : Int32)))), (a1, eI cA 12 (upd t_sounds (t 1).toNatClampNeg l1))] H) (hD : va_D A [(a0, e_X4 a1 (upd t 1 (t 1 + (1 : Int32)))), (a1, eI cA 12 (upd t_sounds (t 1).toNatClampNeg l1))]) hS => ?_)
    exact B_33 _ _ _ _ _ hm hP hD hS (lv_sub hl [0] rfl)
def b_X4_soundAt_28 (fu : Nat) (t : Nat → Int32) (t_sounds : Nat → Int32) (s0 : Int32) : Option (Int32 × Unit) :=
  some (s0, ())
def b_X4_soundAt_27 (fu : Nat) (t : Nat → Int32) (t_sounds : Nat → Int32)  : Option (Int32 × Unit) :=
  b_X4_soundAt_28 fu t t_sounds (-1 : Int32)
def m_X4_soundAt (fu : Nat) (t : Nat → Int32) (t_sounds : Nat → Int32) (l1 : Int32) : Option (Int32 × Unit) :=
  (if t 1 ≤ l1 then
    b_X4_soundAt_27 fu t t_sounds 
  else
    (m_X5_isWithin fu l1 (0 : Int32) (11 : Int32)).bind fun o2 =>
    (if o2.1 = 0 then
      b_X4_soundAt_27 fu t t_sounds 
    else
      gd (inb l1 12) (
      b_X4_soundAt_28 fu t t_sounds (t_sounds l1.toNatClampNeg))))
abbrev rm_X4_soundAt : Room := ({ frames := 1, cells := 0, slots := 0, locals := 22 } : Room)
abbrev w0_X4_soundAt (cA : Nat → ClassId) (a0 : Nat) (a1 : Nat) (t : Nat → Int32) (t_sounds : Nat → Int32) : va_W := [(a0, e_X4 a1 t), (a1, eI cA 12 t_sounds)]
abbrev w1_X4_soundAt (cA : Nat → ClassId) (a0 : Nat) (a1 : Nat) (t : Nat → Int32) (t_sounds : Nat → Int32) (u : Unit) : va_W := [(a0, e_X4 a1 t), (a1, eI cA 12 t_sounds)]
theorem hd_X4_soundAt : yX4_soundAt.cls = RX4 ∧ yX4_soundAt.cls ≠ "java/lang/invoke/MethodHandle" ∧ yX4_soundAt.cls ≠ "java/lang/invoke/VarHandle" ∧ (parseMethodDescriptor yX4_soundAt.desc).map (fun d => d.parameters.length) = some 1 := by decide +kernel
set_option maxHeartbeats 40000000 in
set_option maxRecDepth 100000 in
theorem c_X4_soundAt (l : Launch) (D : va_G) (cA : Nat → ClassId) (sz : Nat) (fu : Nat) (a0 : Nat) (a1 : Nat) (t : Nat → Int32) (t_sounds : Nat → Int32) (l1 : Int32) (out : Int32 × Unit) (hm : m_X4_soundAt fu t t_sounds l1 = some out) : MI l yX4_soundAt (wU yX4_soundAt cX4_soundAt 2 ((Option.some Jvm.ClassFile.FieldType.int))) rm_X4_soundAt D cA sz [.ref a0, .int l1] (w0_X4_soundAt cA a0 a1 t t_sounds) out (w1_X4_soundAt cA a0 a1 t t_sounds) := by
  refine Met.ofW (cc := cX4_soundAt) (maxL := 2) (ret := (Option.some Jvm.ClassFile.FieldType.int)) (by decide) rfl ?_
  intro p e s m args below meth c s₁ B hml hv
  obtain ⟨hargs, hsz, hP, hK, hD0, hN⟩ := hv
  have hx := B.exec
  have hb := B.bytes
  have hr := B.returns
  have htg : ∀ w ∈ gw, w.before args s = true := fun w h => atoms_spec (ws := wU yX4_soundAt cX4_soundAt 2 ((Option.some Jvm.ClassFile.FieldType.int))) B.pre w (List.mem_cons_of_mem _ h)
  have hown : s.vm.findClass RX4 = some m.cls := findClass_of_methodNamed B.named
  have hlocks := B.notSynchronized
  subst hsz
  have hD := hD0.self (sz := s.heap.size)
  have hA : ∀ q : Nat, s.heap.size ≤ q → va_A (w0_X4_soundAt cA a0 a1 t t_sounds) s.heap.size q := fun q h => Or.inr h
  have hS : va_S (va_A (w0_X4_soundAt cA a0 a1 t t_sounds) s.heap.size) s.heap s.heap [] := va_S.rf
  generalize va_A (w0_X4_soundAt cA a0 a1 t t_sounds) s.heap.size = A at hA hD hS ⊢
  obtain ⟨Q, hQ⟩ : ∃ Q : State → Prop, Q = MQ below (va_Qi (fun (r : Int32) (u : Unit) => (r, u) = out) (pst0 D cA A (w1_X4_soundAt cA a0 a1 t t_sounds)) A) args s 0 0 A := ⟨_, rfl⟩
  refine (?_ : W p l e rm_X4_soundAt s m args below meth c s.heap [] 0 0 (MQ below (va_Qi (fun (r : Int32) (u : Unit) => (r, u) = out) (pst0 D cA A (w1_X4_soundAt cA a0 a1 t t_sounds)) A) args s 0 0 A) (entryFrame m args 2))
  rw [← hQ]
  have hP : va_P D CL [(a0, e_X4 a1 t), (a1, eI cA 12 t_sounds)] s.heap := hP
  have hD : va_D A [(a0, e_X4 a1 t), (a1, eI cA 12 t_sounds)] := hD
  have B_28 : ∀ (s0 : Int32) (H : Heap) (locs : List Loc) (ls : Array Slot), b_X4_soundAt_28 fu t t_sounds s0 = some out → va_P D CL [(a0, e_X4 a1 t), (a1, eI cA 12 t_sounds)] H → va_D A [(a0, e_X4 a1 t), (a1, eI cA 12 t_sounds)] → va_S A s.heap H locs → lv_has ls 2 [(0, .ref a0)] → W p l e rm_X4_soundAt s m args below meth c H locs 0 0 Q (F0 m 28 ls [.int s0]) := by
    intro  s0 H locs ls hm hP hD hS hl
    unfold b_X4_soundAt_28 at hm
    rw [hQ]
    exact W.iret (v := s0) hx hb hr (fun t9 ht hW => ⟨⟨s0, (), rfl, (Option.some.inj hm), by rw [ht]; exact hP, va_K.moved hW.alike hK, hD⟩, hS.F ht⟩) hS.2.2 dX4_soundAt_28
  have B_27 : ∀  (H : Heap) (locs : List Loc) (ls : Array Slot), b_X4_soundAt_27 fu t t_sounds  = some out → va_P D CL [(a0, e_X4 a1 t), (a1, eI cA 12 t_sounds)] H → va_D A [(a0, e_X4 a1 t), (a1, eI cA 12 t_sounds)] → va_S A s.heap H locs → lv_has ls 2 [(0, .ref a0)] → W p l e rm_X4_soundAt s m args below meth c H locs 0 0 Q (F0 m 27 ls []) := by
    intro   H locs ls hm hP hD hS hl
    unfold b_X4_soundAt_27 at hm
    refine lv_iconst (v := (-1 : Int32)) hx hb dX4_soundAt_27 (by decide) ?_
    exact B_28 _ _ _ _ hm hP hD hS (lv_sub hl [0] rfl)
  unfold m_X4_soundAt at hm
  subst hargs
  have hl := lv_entry ([.ref a0, .int l1]) (n := 2) (Nat.le_of_ble_eq_true rfl)
  rw [lg_entry_eq]
  generalize (lg_sl ([.ref a0, .int l1]) ++ List.replicate (2 - (lg_sl ([.ref a0, .int l1])).length) Slot.unset).toArray = ls at hl ⊢
  have hl : lv_has ls 2 [(0, .ref a0), (1, .int l1)] := hl
  refine lv_iload_n hx hb dX4_soundAt_0 rfl (lv_at hl 1 rfl) ?_
  refine lv_aload_n hx hb dX4_soundAt_1 rfl (lv_at hl 0 rfl) ?_
  refine va_get (D := D) (ci := 4) (v := .int (t 1)) (C := RX4) (T := TX4) (N := 2) hx hb htg inX4 hown hK hP 0 rfl rfl 1 (by decide) (htg _ q_1_180) (fun _ h9 => h9) rfl dX4_soundAt_2 ?_
  refine lv_icmp_ge (tgt := 27) hx hb dX4_soundAt_5 (by decide) (fun c1 => ?_) (fun c1 => ?_)
  · have hm := it_t c1 hm
    exact B_27  _ _ _ hm hP hD hS (lv_sub hl [0] rfl)
  · have hm := it_f c1 hm
    refine lv_iload_n hx hb dX4_soundAt_8 rfl (lv_at hl 1 rfl) ?_
    refine lv_iconst (v := (0 : Int32)) hx hb dX4_soundAt_9 (by decide) ?_
    refine lv_bipush (v := (11 : Int32)) hx hb dX4_soundAt_10 (by decide) ?_
    obtain ⟨o2, ho3, hm⟩ := bd_s hm
    refine xr_i (wr := [(a0, e_X4 a1 t), (a1, eI cA 12 t_sounds)]) (wn := [(a0, e_X4 a1 t), (a1, eI cA 12 t_sounds)]) (va_runSN (As := [.int l1, .int (0 : Int32), .int (11 : Int32)]) (rest := []) ⟨hx, hb, hml, hown, htg⟩ (c_X5_isWithin l D cA _ fu l1 (0 : Int32) (11 : Int32) o2 ho3) ⟨va_cnB 3 htg (gU q_2_9) rfl rfl rfl (hN _ q_2_122) (htg _ q_1_1) hd_X5_isWithin.2 ⟨Nat.le_of_ble_eq_true rfl, Nat.le_of_ble_eq_true rfl⟩, htg _ q_2_8, trivial⟩ (xpS hN hK hP hD [] rfl (by decide)) rfl rfl hl.1 rfl (lv_room (Nat.le_of_ble_eq_true rfl)) dX4_soundAt_12 ⟨Nat.zero_le _, Nat.zero_le _⟩) hP hD hS hA [] [0, 1] [0, 1] rfl rfl (by decide) (by decide) rfl (by decide) (fun H locs hP hD hS => ?_)
    refine lv_if_eq (tgt := 27) hx hb dX4_soundAt_15 (by decide) (fun c4 => ?_) (fun c4 => ?_)
    · have hm := it_t c4 hm
      exact B_27  _ _ _ hm hP hD hS (lv_sub hl [0] rfl)
    · have hm := it_f c4 hm
      refine lv_aload_n hx hb dX4_soundAt_18 rfl (lv_at hl 0 rfl) ?_
      refine va_get (D := D) (ci := 4) (v := .ref a1) (C := RX4) (T := TX4) (N := 2) hx hb htg inX4 hown hK hP 0 rfl rfl 0 (by decide) (htg _ q_1_179) (fun _ h9 => h9) rfl dX4_soundAt_19 ?_
      refine lv_iload_n hx hb dX4_soundAt_22 rfl (lv_at hl 1 rfl) ?_
      obtain ⟨hi5, hm⟩ := gd_s hm
      refine va_iald hx hb hK hP 1 0 rfl rfl hi5 dX4_soundAt_23 ?_
      refine lv_goto (tgt := 28) hx hb dX4_soundAt_24 (by decide) ?_
      exact B_28 _ _ _ _ hm hP hD hS (lv_sub hl [0] rfl)
def b_X4_takes_28 (fu : Nat) (p1 : Nat → Int32) (p1_sounds : Nat → Int32) (k_6 : (Int32 × Int32 × (Nat → Int32) × (Nat → Int32)) → Option ((Nat → Int32) × (Nat → Int32))) (l2 : Int32) (l3 : Int32) (t : Nat → Int32) (t_sounds : Nat → Int32) : Option ((Nat → Int32) × (Nat → Int32)) :=
  k_6 (l2, (l3 + (1 : Int32)), t, t_sounds)
def b_X4_takes_6 (fu : Nat) (p1 : Nat → Int32) (p1_sounds : Nat → Int32) (k_6 : (Int32 × Int32 × (Nat → Int32) × (Nat → Int32)) → Option ((Nat → Int32) × (Nat → Int32))) (x : Int32 × Int32 × (Nat → Int32) × (Nat → Int32)) : Option ((Nat → Int32) × (Nat → Int32)) :=
  (if p1 1 ≤ x.2.1 then
        some (x.2.2.1, x.2.2.2)
      else
        (if x.2.1 = x.1 then
          b_X4_takes_28 fu p1 p1_sounds k_6 x.1 x.2.1 x.2.2.1 x.2.2.2
        else
          (m_X4_soundAt fu p1 p1_sounds x.2.1).bind fun o3 =>
          (m_X4_add fu x.2.2.1 x.2.2.2 o3.1).bind fun o5 =>
          b_X4_takes_28 fu p1 p1_sounds k_6 x.1 x.2.1 o5.1 o5.2))
def m_X4_takes (fu : Nat) (t : Nat → Int32) (t_sounds : Nat → Int32) (p1 : Nat → Int32) (p1_sounds : Nat → Int32) (l2 : Int32) : Option ((Nat → Int32) × (Nat → Int32)) :=
  (m_X4_clear fu t).bind fun o7 =>
  lfix (b_X4_takes_6 fu p1 p1_sounds) fu (l2, (0 : Int32), o7, t_sounds)
abbrev rm_X4_takes : Room := ({ frames := 2, cells := 0, slots := 0, locals := 43 } : Room)
abbrev w0_X4_takes (cA : Nat → ClassId) (a0 : Nat) (a1 : Nat) (p1a0 : Nat) (p1a1 : Nat) (t : Nat → Int32) (t_sounds : Nat → Int32) (p1 : Nat → Int32) (p1_sounds : Nat → Int32) : va_W := [(a0, e_X4 a1 t), (a1, eI cA 12 t_sounds), (p1a0, e_X4 p1a1 p1), (p1a1, eI cA 12 p1_sounds)]
abbrev w1_X4_takes (cA : Nat → ClassId) (a0 : Nat) (a1 : Nat) (p1a0 : Nat) (p1a1 : Nat) (p1 : Nat → Int32) (p1_sounds : Nat → Int32) (u : (Nat → Int32) × (Nat → Int32)) : va_W := [(a0, e_X4 a1 u.1), (a1, eI cA 12 u.2), (p1a0, e_X4 p1a1 p1), (p1a1, eI cA 12 p1_sounds)]
theorem hd_X4_takes : yX4_takes.cls = RX4 ∧ yX4_takes.cls ≠ "java/lang/invoke/MethodHandle" ∧ yX4_takes.cls ≠ "java/lang/invoke/VarHandle" ∧ (parseMethodDescriptor yX4_takes.desc).map (fun d => d.parameters.length) = some 2 := by decide +kernel
set_option maxHeartbeats 40000000 in
set_option maxRecDepth 100000 in
theorem c_X4_takes (l : Launch) (D : va_G) (cA : Nat → ClassId) (sz : Nat) (fu : Nat) (a0 : Nat) (a1 : Nat) (p1a0 : Nat) (p1a1 : Nat) (t : Nat → Int32) (t_sounds : Nat → Int32) (p1 : Nat → Int32) (p1_sounds : Nat → Int32) (l2 : Int32) (out : (Nat → Int32) × (Nat → Int32)) (hm : m_X4_takes fu t t_sounds p1 p1_sounds l2 = some out) : MV l yX4_takes (wU yX4_takes cX4_takes 4 ((Option.none : Option Jvm.ClassFile.FieldType))) rm_X4_takes D cA sz [.ref a0, .ref p1a0, .int l2] (w0_X4_takes cA a0 a1 p1a0 p1a1 t t_sounds p1 p1_sounds) out (w1_X4_takes cA a0 a1 p1a0 p1a1 p1 p1_sounds) := by
  refine Met.ofW (cc := cX4_takes) (maxL := 4) (ret := (Option.none : Option Jvm.ClassFile.FieldType)) (by decide) rfl ?_
  intro p e s m args below meth c s₁ B hml hv
  obtain ⟨hargs, hsz, hP, hK, hD0, hN⟩ := hv
  have hx := B.exec
  have hb := B.bytes
  have hr := B.returns
  have htg : ∀ w ∈ gw, w.before args s = true := fun w h => atoms_spec (ws := wU yX4_takes cX4_takes 4 ((Option.none : Option Jvm.ClassFile.FieldType))) B.pre w (List.mem_cons_of_mem _ h)
  have hown : s.vm.findClass RX4 = some m.cls := findClass_of_methodNamed B.named
  have hlocks := B.notSynchronized
  subst hsz
  have hD := hD0.self (sz := s.heap.size)
  have hA : ∀ q : Nat, s.heap.size ≤ q → va_A (w0_X4_takes cA a0 a1 p1a0 p1a1 t t_sounds p1 p1_sounds) s.heap.size q := fun q h => Or.inr h
  have hS : va_S (va_A (w0_X4_takes cA a0 a1 p1a0 p1a1 t t_sounds p1 p1_sounds) s.heap.size) s.heap s.heap [] := va_S.rf
  generalize va_A (w0_X4_takes cA a0 a1 p1a0 p1a1 t t_sounds p1 p1_sounds) s.heap.size = A at hA hD hS ⊢
  obtain ⟨Q, hQ⟩ : ∃ Q : State → Prop, Q = MQ below (va_Qv (fun (u : (Nat → Int32) × (Nat → Int32)) => u = out) (pst0 D cA A (w1_X4_takes cA a0 a1 p1a0 p1a1 p1 p1_sounds)) A) args s 0 0 A := ⟨_, rfl⟩
  refine (?_ : W p l e rm_X4_takes s m args below meth c s.heap [] 0 0 (MQ below (va_Qv (fun (u : (Nat → Int32) × (Nat → Int32)) => u = out) (pst0 D cA A (w1_X4_takes cA a0 a1 p1a0 p1a1 p1 p1_sounds)) A) args s 0 0 A) (entryFrame m args 4))
  rw [← hQ]
  have hP : va_P D CL [(a0, e_X4 a1 t), (a1, eI cA 12 t_sounds), (p1a0, e_X4 p1a1 p1), (p1a1, eI cA 12 p1_sounds)] s.heap := hP
  have hD : va_D A [(a0, e_X4 a1 t), (a1, eI cA 12 t_sounds), (p1a0, e_X4 p1a1 p1), (p1a1, eI cA 12 p1_sounds)] := hD
  have B_28 : ∀ (k_6 : (Int32 × Int32 × (Nat → Int32) × (Nat → Int32)) → Option ((Nat → Int32) × (Nat → Int32))) (HK_6 : ∀ (x : Int32 × Int32 × (Nat → Int32) × (Nat → Int32)) (H : Heap) (locs : List Loc) (ls : Array Slot), k_6 x = some out → va_P D CL [(a0, e_X4 a1 x.2.2.1), (a1, eI cA 12 x.2.2.2), (p1a0, e_X4 p1a1 p1), (p1a1, eI cA 12 p1_sounds)] H → va_D A [(a0, e_X4 a1 x.2.2.1), (a1, eI cA 12 x.2.2.2), (p1a0, e_X4 p1a1 p1), (p1a1, eI cA 12 p1_sounds)] → va_S A s.heap H locs → lv_has ls 4 [(0, .ref a0), (1, .ref p1a0), (2, .int x.1), (3, .int x.2.1)] → W p l e rm_X4_takes s m args below meth c H locs 0 0 Q (F0 m 6 ls [])) (l2 : Int32) (l3 : Int32) (t : Nat → Int32) (t_sounds : Nat → Int32) (H : Heap) (locs : List Loc) (ls : Array Slot), b_X4_takes_28 fu p1 p1_sounds k_6 l2 l3 t t_sounds = some out → va_P D CL [(a0, e_X4 a1 t), (a1, eI cA 12 t_sounds), (p1a0, e_X4 p1a1 p1), (p1a1, eI cA 12 p1_sounds)] H → va_D A [(a0, e_X4 a1 t), (a1, eI cA 12 t_sounds), (p1a0, e_X4 p1a1 p1), (p1a1, eI cA 12 p1_sounds)] → va_S A s.heap H locs → lv_has ls 4 [(0, .ref a0), (1, .ref p1a0), (2, .int l2), (3, .int l3)] → W p l e rm_X4_takes s m args below meth c H locs 0 0 Q (F0 m 28 ls []) := by
    intro k_6 HK_6 l2 l3 t t_sounds H locs ls hm hP hD hS hl
    unfold b_X4_takes_28 at hm
    refine lv_iinc (v := (l3 + (1 : Int32))) (lv' := [(3, .int (l3 + (1 : Int32))), (0, .ref a0), (1, .ref p1a0), (2, .int l2)]) hx hb dX4_takes_28 hl (k := 3) rfl rfl (by decide) rfl (fun ls hl => ?_)
    refine lv_goto (tgt := 6) hx hb dX4_takes_31 (by decide) ?_
    exact HK_6 _ _ _ _ hm hP hD hS (lv_sub hl [1, 2, 3, 0] rfl)
  have B_6 : ∀ (n : Nat) (x : Int32 × Int32 × (Nat → Int32) × (Nat → Int32)) (H : Heap) (locs : List Loc) (ls : Array Slot), lfix (b_X4_takes_6 fu p1 p1_sounds) n x = some out → va_P D CL [(a0, e_X4 a1 x.2.2.1), (a1, eI cA 12 x.2.2.2), (p1a0, e_X4 p1a1 p1), (p1a1, eI cA 12 p1_sounds)] H → va_D A [(a0, e_X4 a1 x.2.2.1), (a1, eI cA 12 x.2.2.2), (p1a0, e_X4 p1a1 p1), (p1a1, eI cA 12 p1_sounds)] → va_S A s.heap H locs → lv_has ls 4 [(0, .ref a0), (1, .ref p1a0), (2, .int x.1), (3, .int x.2.1)] → W p l e rm_X4_takes s m args below meth c H locs 0 0 Q (F0 m 6 ls []) := by
    intro  n
    induction n with
    | zero => intro x H locs ls hm; cases (show none = some out from hm)
    | succ n HK_6 =>
      intro x H locs ls hm hP hD hS hl
      replace hm : b_X4_takes_6 fu p1 p1_sounds (lfix (b_X4_takes_6 fu p1 p1_sounds) n) x = some out := hm
      unfold b_X4_takes_6 at hm
      refine lv_iload_n hx hb dX4_takes_6 rfl (lv_at hl 3 rfl) ?_
      refine lv_aload_n hx hb dX4_takes_7 rfl (lv_at hl 1 rfl) ?_
      refine va_get (D := D) (ci := 4) (v := .int (p1 1)) (C := RX4) (T := TX4) (N := 2) hx hb htg inX4 hown hK hP 2 rfl rfl 1 (by decide) (htg _ q_1_180) (fun _ h9 => h9) rfl dX4_takes_8 ?_
      refine lv_icmp_ge (tgt := 34) hx hb dX4_takes_11 (by decide) (fun c1 => ?_) (fun c1 => ?_)
      · have hm := it_t c1 hm
        rw [hQ]
        exact W.vret hx hb hr (fun t9 ht hW => ⟨⟨(x.2.2.1, x.2.2.2), rfl, (Option.some.inj hm), by rw [ht]; exact hP, va_K.moved hW.alike hK, hD⟩, hS.F ht⟩) hS.2.2 dX4_takes_34
      · have hm := it_f c1 hm
        refine lv_iload_n hx hb dX4_takes_14 rfl (lv_at hl 3 rfl) ?_
        refine lv_iload_n hx hb dX4_takes_15 rfl (lv_at hl 2 rfl) ?_
        refine lv_icmp_eq (tgt := 28) hx hb dX4_takes_16 (by decide) (fun c2 => ?_) (fun c2 => ?_)
        · have hm := it_t c2 hm
          exact B_28 _ HK_6 _ _ _ _ _ _ _ hm hP hD hS (lv_sub hl [0, 1, 2, 3] rfl)
        · have hm := it_f c2 hm
          refine lv_aload_n hx hb dX4_takes_19 rfl (lv_at hl 0 rfl) ?_
          refine lv_aload_n hx hb dX4_takes_20 rfl (lv_at hl 1 rfl) ?_
          refine lv_iload_n hx hb dX4_takes_21 rfl (lv_at hl 3 rfl) ?_
          obtain ⟨o3, ho4, hm⟩ := bd_s hm
          refine xr_i (wr := [(a0, e_X4 a1 x.2.2.1), (a1, eI cA 12 x.2.2.2)]) (wn := [(a0, e_X4 a1 x.2.2.1), (a1, eI cA 12 x.2.2.2), (p1a0, e_X4 p1a1 p1), (p1a1, eI cA 12 p1_sounds)]) (va_runV (As := [.int x.2.1]) (rest := [.ref a0]) ⟨hx, hb, hml, hown, htg⟩ (c_X4_soundAt l D cA _ fu p1a0 p1a1 p1 p1_sounds x.2.1 o3 ho4) (cwV 1 htg (gV q_3_201 q_2_136 q_p2_2 q_1_7 q_2_137) rfl rfl rfl hd_X4_soundAt ⟨Nat.le_of_ble_eq_true rfl, Nat.le_of_ble_eq_true rfl⟩) (xpV hN hK hP hD [2, 3] rfl (by decide) rfl rfl) rfl rfl hl.1 rfl (lv_room (Nat.le_of_ble_eq_true rfl)) dX4_takes_22 ⟨Nat.zero_le _, Nat.zero_le _⟩) hP hD hS hA [2, 3] [0, 1] [0, 1, 2, 3] rfl rfl (by decide) (by decide) rfl (by decide) (fun H locs hP hD hS => ?_)
          obtain ⟨o5, ho6, hm⟩ := bd_s hm
          refine xr_v (wr := [(p1a0, e_X4 p1a1 p1), (p1a1, eI cA 12 p1_sounds)]) (wn := [(a0, e_X4 a1 o5.1), (a1, eI cA 12 o5.2), (p1a0, e_X4 p1a1 p1), (p1a1, eI cA 12 p1_sounds)]) (va_runV (As := [.int o3.1]) (rest := []) ⟨hx, hb, hml, hown, htg⟩ (c_X4_add l D cA _ fu a0 a1 x.2.2.1 x.2.2.2 o3.1 o5 ho6) (cwV 1 htg (gV q_3_202 q_2_120 q_p1_15 q_1_7 q_2_121) rfl rfl rfl hd_X4_add ⟨Nat.le_of_ble_eq_true rfl, Nat.le_of_ble_eq_true rfl⟩) (xpV hN hK hP hD [0, 1] rfl (by decide) rfl rfl) rfl rfl hl.1 rfl (lv_room (Nat.le_of_ble_eq_true rfl)) dX4_takes_25 ⟨Nat.zero_le _, Nat.zero_le _⟩) hP hD hS hA [0, 1] [2, 3] [2, 3, 0, 1] rfl rfl (by decide) (by decide) rfl (by decide) (fun H locs hP hD hS => ?_)
          exact B_28 _ HK_6 _ _ _ _ _ _ _ hm hP hD hS (lv_sub hl [0, 1, 2, 3] rfl)
  unfold m_X4_takes at hm
  subst hargs
  have hl := lv_entry ([.ref a0, .ref p1a0, .int l2]) (n := 4) (Nat.le_of_ble_eq_true rfl)
  rw [lg_entry_eq]
  generalize (lg_sl ([.ref a0, .ref p1a0, .int l2]) ++ List.replicate (4 - (lg_sl ([.ref a0, .ref p1a0, .int l2])).length) Slot.unset).toArray = ls at hl ⊢
  have hl : lv_has ls 4 [(0, .ref a0), (1, .ref p1a0), (2, .int l2)] := hl
  refine lv_aload_n hx hb dX4_takes_0 rfl (lv_at hl 0 rfl) ?_
  obtain ⟨o7, ho8, hm⟩ := bd_s hm
  refine xr_v (wr := [(a1, eI cA 12 t_sounds), (p1a0, e_X4 p1a1 p1), (p1a1, eI cA 12 p1_sounds)]) (wn := [(a0, e_X4 a1 o7), (a1, eI cA 12 t_sounds), (p1a0, e_X4 p1a1 p1), (p1a1, eI cA 12 p1_sounds)]) (va_runV (As := []) (rest := []) ⟨hx, hb, hml, hown, htg⟩ (c_X4_clear l D cA _ fu a0 a1 t o7 ho8) (cwV 0 htg (gV q_3_200 q_2_116 q_p1_14 q_1_7 q_2_117) rfl rfl rfl hd_X4_clear ⟨Nat.le_of_ble_eq_true rfl, Nat.le_of_ble_eq_true rfl⟩) (xpV hN hK hP hD [0] rfl (by decide) rfl rfl) rfl rfl hl.1 rfl (lv_room (Nat.le_of_ble_eq_true rfl)) dX4_takes_1 ⟨Nat.zero_le _, Nat.zero_le _⟩) hP hD hS hA [0] [1, 2, 3] [3, 0, 1, 2] rfl rfl (by decide) (by decide) rfl (by decide) (fun H locs hP hD hS => ?_)
  refine lv_iconst (v := (0 : Int32)) hx hb dX4_takes_4 (by decide) ?_
  refine lv_istore_n (lv' := [(3, .int (0 : Int32)), (0, .ref a0), (1, .ref p1a0), (2, .int l2)]) hx hb dX4_takes_5 rfl hl (by decide) rfl (fun ls hl => ?_)
  exact B_6 fu _ _ _ _ hm hP hD hS (lv_sub hl [1, 2, 3, 0] rfl)
