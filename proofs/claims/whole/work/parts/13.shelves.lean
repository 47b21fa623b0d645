def b_X0_putRow_49 (fu : Nat) (t_holding : Nat → Int32) (t_sizes : Nat → Int32) (t_elements : Nat → Int64) : Option ((Nat → Int32) × (Nat → Int32) × (Nat → Int64)) :=
  some (t_holding, t_sizes, t_elements)
def m_X0_putRow (fu : Nat) (t_holding : Nat → Int32) (t_sizes : Nat → Int32) (t_elements : Nat → Int64) (l1 : Int32) (l2 : Int32) (l3 : Int32) : Option ((Nat → Int32) × (Nat → Int32) × (Nat → Int64)) :=
  (m_X5_isShelf fu l1).bind fun o1 =>
  (if o1.1 = 0 then
    b_X0_putRow_49 fu t_holding t_sizes t_elements
  else
    (m_X5_isWithin fu l3 (0 : Int32) (40 : Int32)).bind fun o4 =>
    (if o4.1 = 0 then
      b_X0_putRow_49 fu t_holding t_sizes t_elements
    else
      gd (inb l1 8) (
      gd (inb l1 8) (
      (m_J7_fill_bad5a fu 320 t_elements (l1 * (40 : Int32)) ((l1 * (40 : Int32)) + l3) (0 : Int64)).bind fun o9 =>
      b_X0_putRow_49 fu (upd t_holding l1.toNatClampNeg l2) (upd t_sizes l1.toNatClampNeg l3) o9))))
abbrev rm_X0_putRow : Room := ({ frames := 2, cells := 0, slots := 0, locals := 47 } : Room)
abbrev w0_X0_putRow (cA : Nat → ClassId) (a0 : Nat) (a1 : Nat) (a2 : Nat) (a3 : Nat) (t_holding : Nat → Int32) (t_sizes : Nat → Int32) (t_elements : Nat → Int64) : va_W := [(a0, e_X0 a1 a2 a3), (a1, eI cA 8 t_holding), (a2, eI cA 8 t_sizes), (a3, eJ cA 320 t_elements)]
abbrev w1_X0_putRow (cA : Nat → ClassId) (a0 : Nat) (a1 : Nat) (a2 : Nat) (a3 : Nat) (u : (Nat → Int32) × (Nat → Int32) × (Nat → Int64)) : va_W := [(a0, e_X0 a1 a2 a3), (a1, eI cA 8 u.1), (a2, eI cA 8 u.2.1), (a3, eJ cA 320 u.2.2)]
theorem hd_X0_putRow : yX0_putRow.cls = RX0 ∧ yX0_putRow.cls ≠ "java/lang/invoke/MethodHandle" ∧ yX0_putRow.cls ≠ "java/lang/invoke/VarHandle" ∧ (parseMethodDescriptor yX0_putRow.desc).map (fun d => d.parameters.length) = some 3 := by decide +kernel
set_option maxHeartbeats 40000000 in
set_option maxRecDepth 100000 in
theorem c_X0_putRow (l : Launch) (D : va_G) (cA : Nat → ClassId) (sz : Nat) (fu : Nat) (a0 : Nat) (a1 : Nat) (a2 : Nat) (a3 : Nat) (t_holding : Nat → Int32) (t_sizes : Nat → Int32) (t_elements : Nat → Int64) (l1 : Int32) (l2 : Int32) (l3 : Int32) (out : (Nat → Int32) × (Nat → Int32) × (Nat → Int64)) (hm : m_X0_putRow fu t_holding t_sizes t_elements l1 l2 l3 = some out) : MV l yX0_putRow (wU yX0_putRow cX0_putRow 4 ((Option.none : Option Jvm.ClassFile.FieldType))) rm_X0_putRow D cA sz [.ref a0, .int l1, .int l2, .int l3] (w0_X0_putRow cA a0 a1 a2 a3 t_holding t_sizes t_elements) out (w1_X0_putRow cA a0 a1 a2 a3) := by
  refine Met.ofW (cc := cX0_putRow) (maxL := 4) (ret := (Option.none : Option Jvm.ClassFile.FieldType)) (by decide) rfl ?_
  intro p e s m args below meth c s₁ B hml hv
  obtain ⟨hargs, hsz, hP, hK, hD0, hN⟩ := hv
  have hx := B.exec
  have hb := B.bytes
  have hr := B.returns
  have htg : ∀ w ∈ gw, w.before args s = true := fun w h => atoms_spec (ws := wU yX0_putRow cX0_putRow 4 ((Option.none : Option Jvm.ClassFile.FieldType))) B.pre w (List.mem_cons_of_mem _ h)
  have hown : s.vm.findClass RX0 = some m.cls := findClass_of_methodNamed B.named
  have hlocks := B.notSynchronized
  subst hsz
  have hD := hD0.self (sz := s.heap.size)
  have hA : ∀ q : Nat, s.heap.size ≤ q → va_A (w0_X0_putRow cA a0 a1 a2 a3 t_holding t_sizes t_elements) s.heap.size q := fun q h => Or.inr h
  have hS : va_S (va_A (w0_X0_putRow cA a0 a1 a2 a3 t_holding t_sizes t_elements) s.heap.size) s.heap s.heap [] := va_S.rf
  generalize va_A (w0_X0_putRow cA a0 a1 a2 a3 t_holding t_sizes t_elements) s.heap.size = A at hA hD hS ⊢
  obtain ⟨Q, hQ⟩ : ∃ Q : State → Prop, Q = MQ below (va_Qv (fun (u : (Nat → Int32) × (Nat → Int32) × (Nat → Int64)) => u = out) (pst0 D cA A (w1_X0_putRow cA a0 a1 a2 a3)) A) args s 0 0 A := ⟨_, rfl⟩
  refine (?_ : W p l e rm_X0_putRow s m args below meth c s.heap [] 0 0 (MQ below (va_Qv (fun (u : (Nat → Int32) × (Nat → Int32) × (Nat → Int64)) => u = out) (pst0 D cA A (w1_X0_putRow cA a0 a1 a2 a3)) A) args s 0 0 A) (entryFrame m args 4))
  rw [← hQ]
  have hP : va_P D CL [(a0, e_X0 a1 a2 a3), (a1, eI cA 8 t_holding), (a2, eI cA 8 t_sizes), (a3, eJ cA 320 t_elements)] s.heap := hP
  have hD : va_D A [(a0, e_X0 a1 a2 a3), (a1, eI cA 8 t_holding), (a2, eI cA 8 t_sizes), (a3, eJ cA 320 t_elements)] := hD
  have B_49 : ∀ (t_holding : Nat → Int32) (t_sizes : Nat → Int32) (t_elements : Nat → Int64) (H : Heap) (locs : List Loc) (ls : Array Slot), b_X0_putRow_49 fu t_holding t_sizes t_elements = some out → va_P D CL [(a0, e_X0 a1 a2 a3), (a1, eI cA 8 t_holding), (a2, eI cA 8 t_sizes), (a3, eJ cA 320 t_elements)] H → va_D A [(a0, e_X0 a1 a2 a3), (a1, eI cA 8 t_holding), (a2, eI cA 8 t_sizes), (a3, eJ cA 320 t_elements)] → va_S A s.heap H locs → lv_has ls 4 [(0, .ref a0)] → W p l e rm_X0_putRow s m args below meth c H locs 0 0 Q (F0 m 49 ls []) := by
    intro  t_holding t_sizes t_elements H locs ls hm hP hD hS hl
    unfold b_X0_putRow_49 at hm
    rw [hQ]
    exact W.vret hx hb hr (fun t9 ht hW => ⟨⟨(t_holding, t_sizes, t_elements), rfl, (Option.some.inj hm), by rw [ht]; exact hP, va_K.moved hW.alike hK, hD⟩, hS.F ht⟩) hS.2.2 dX0_putRow_49
  unfold m_X0_putRow at hm
  subst hargs
  have hl := lv_entry ([.ref a0, .int l1, .int l2, .int l3]) (n := 4) (Nat.le_of_ble_eq_true rfl)
  rw [lg_entry_eq]
  generalize (lg_sl ([.ref a0, .int l1, .int l2, .int l3]) ++ List.replicate (4 - (lg_sl ([.ref a0, .int l1, .int l2, .int l3])).length) Slot.unset).toArray = ls at hl ⊢
  have hl : lv_has ls 4 [(0, .ref a0), (1, .int l1), (2, .int l2), (3, .int l3)] := hl
  refine lv_iload_n hx hb dX0_putRow_0 rfl (lv_at hl 1 rfl) ?_
  obtain ⟨o1, ho2, hm⟩ := bd_s hm
  refine xr_i (wr := [(a0, e_X0 a1 a2 a3), (a1, eI cA 8 t_holding), (a2, eI cA 8 t_sizes), (a3, eJ cA 320 t_elements)]) (wn := [(a0, e_X0 a1 a2 a3), (a1, eI cA 8 t_holding), (a2, eI cA 8 t_sizes), (a3, eJ cA 320 t_elements)]) (va_runSN (As := [.int l1]) (rest := []) ⟨hx, hb, hml, hown, htg⟩ (c_X5_isShelf l D cA _ fu l1 o1 ho2) ⟨va_cnB 1 htg (gU q_2_6) rfl rfl rfl (hN _ q_2_18) (htg _ q_1_1) hd_X5_isShelf.2 ⟨Nat.le_of_ble_eq_true rfl, Nat.le_of_ble_eq_true rfl⟩, htg _ q_2_5, trivial⟩ (xpS hN hK hP hD [] rfl (by decide)) rfl rfl hl.1 rfl (lv_room (Nat.le_of_ble_eq_true rfl)) dX0_putRow_1 ⟨Nat.zero_le _, Nat.zero_le _⟩) hP hD hS hA [] [0, 1, 2, 3] [0, 1, 2, 3] rfl rfl (by decide) (by decide) rfl (by decide) (fun H locs hP hD hS => ?_)
  refine lv_if_eq (tgt := 49) hx hb dX0_putRow_4 (by decide) (fun c3 => ?_) (fun c3 => ?_)
  · have hm := it_t c3 hm
    exact B_49 _ _ _ _ _ _ hm hP hD hS (lv_sub hl [0] rfl)
  · have hm := it_f c3 hm
    refine lv_iload_n hx hb dX0_putRow_7 rfl (lv_at hl 3 rfl) ?_
    refine lv_iconst (v := (0 : Int32)) hx hb dX0_putRow_8 (by decide) ?_
    refine lv_bipush (v := (40 : Int32)) hx hb dX0_putRow_9 (by decide) ?_
    obtain ⟨o4, ho5, hm⟩ := bd_s hm
    refine xr_i (wr := [(a0, e_X0 a1 a2 a3), (a1, eI cA 8 t_holding), (a2, eI cA 8 t_sizes), (a3, eJ cA 320 t_elements)]) (wn := [(a0, e_X0 a1 a2 a3), (a1, eI cA 8 t_holding), (a2, eI cA 8 t_sizes), (a3, eJ cA 320 t_elements)]) (va_runSN (As := [.int l3, .int (0 : Int32), .int (40 : Int32)]) (rest := []) ⟨hx, hb, hml, hown, htg⟩ (c_X5_isWithin l D cA _ fu l3 (0 : Int32) (40 : Int32) o4 ho5) ⟨va_cnB 3 htg (gU q_2_9) rfl rfl rfl (hN _ q_2_19) (htg _ q_1_1) hd_X5_isWithin.2 ⟨Nat.le_of_ble_eq_true rfl, Nat.le_of_ble_eq_true rfl⟩, htg _ q_2_8, trivial⟩ (xpS hN hK hP hD [] rfl (by decide)) rfl rfl hl.1 rfl (lv_room (Nat.le_of_ble_eq_true rfl)) dX0_putRow_11 ⟨Nat.zero_le _, Nat.zero_le _⟩) hP hD hS hA [] [0, 1, 2, 3] [0, 1, 2, 3] rfl rfl (by decide) (by decide) rfl (by decide) (fun H locs hP hD hS => ?_)
    refine lv_if_eq (tgt := 49) hx hb dX0_putRow_14 (by decide) (fun c6 => ?_) (fun c6 => ?_)
    · have hm := it_t c6 hm
      exact B_49 _ _ _ _ _ _ hm hP hD hS (lv_sub hl [0] rfl)
    · have hm := it_f c6 hm
      refine lv_aload_n hx hb dX0_putRow_17 rfl (lv_at hl 0 rfl) ?_
      refine va_get (D := D) (ci := 0) (v := .ref a1) (C := RX0) (T := TX0) (N := 3) hx hb htg inX0 hown hK hP 0 rfl rfl 0 (by decide) (htg _ q_1_98) (fun _ h9 => h9) rfl dX0_putRow_18 ?_
      refine lv_iload_n hx hb dX0_putRow_21 rfl (lv_at hl 1 rfl) ?_
      refine lv_iload_n hx hb dX0_putRow_22 rfl (lv_at hl 2 rfl) ?_
      obtain ⟨hi7, hm⟩ := gd_s hm
      refine va_iast hx hb hK hP hD hS 1 0 rfl rfl hi7 dX0_putRow_23 (fun H locs (hP : va_P D CL [(a0, e_X0 a1 a2 a3), (a1, eI cA 8 (upd t_holding l1.toNatClampNeg l2)), (a2, eI cA 8 t_sizes), (a3, eJ cA 320 t_elements)] H) (hD : va_D A [(a0, e_X0 a1 a2 a3), (a1, eI cA 8 (upd t_holding l1.toNatClampNeg l2)), (a2, eI cA 8 t_sizes), (a3, eJ cA 320 t_elements)]) hS => ?_)
      refine lv_aload_n hx hb dX0_putRow_24 rfl (lv_at hl 0 rfl) ?_
      refine va_get (D := D) (ci := 0) (v := .ref a2) (C := RX0) (T := TX0) (N := 3) hx hb htg inX0 hown hK hP 0 rfl rfl 1 (by decide) (htg _ q_1_99) (fun _ h9 => h9) rfl dX0_putRow_25 ?_
      refine lv_iload_n hx hb dX0_putRow_28 rfl (lv_at hl 1 rfl) ?_
      refine lv_iload_n hx hb dX0_putRow_29 rfl (lv_at hl 3 rfl) ?_
      obtain ⟨hi8, hm⟩ := gd_s hm
      refine va_iast hx hb hK hP hD hS 2 0 rfl rfl hi8 dX0_putRow_30 (fun H locs (hP : va_P D CL [(a0, e_X0 a1 a2 a3), (a1, eI cA 8 (upd t_holding l1.toNatClampNeg l2)), (a2, eI cA 8 (upd t_sizes l1.toNatClampNeg l3)), (a3, eJ cA 320 t_elements)] H) (hD : va_D A [(a0, e_X0 a1 a2 a3), (a1, eI cA 8 (upd t_holding l1.toNatClampNeg l2)), (a2, eI cA 8 (upd t_sizes l1.toNatClampNeg l3)), (a3, eJ cA 320 t_elements)]) hS => ?_)
      refine lv_aload_n hx hb dX0_putRow_31 rfl (lv_at hl 0 rfl) ?_
      refine va_get (D := D) (ci := 0) (v := .ref a3) (C := RX0) (T := TX0) (N := 3) hx hb htg inX0 hown hK hP 0 rfl rfl 2 (by decide) (htg _ q_1_100) (fun _ h9 => h9) rfl dX0_putRow_32 ?_
      refine lv_iload_n hx hb dX0_putRow_35 rfl (lv_at hl 1 rfl) ?_
      refine lv_bipush (v := (40 : Int32)) hx hb dX0_putRow_36 (by decide) ?_
      refine lv_imul hx hb dX0_putRow_38 ?_
      refine lv_iload_n hx hb dX0_putRow_39 rfl (lv_at hl 1 rfl) ?_
      refine lv_bipush (v := (40 : Int32)) hx hb dX0_putRow_40 (by decide) ?_
      refine lv_imul hx hb dX0_putRow_42 ?_
      refine lv_iload_n hx hb dX0_putRow_43 rfl (lv_at hl 3 rfl) ?_
      refine lv_iadd hx hb dX0_putRow_44 ?_
      refine lv_lconst (v := (0 : Int64)) hx hb dX0_putRow_45 (by decide) ?_
      obtain ⟨o9, ho10, hm⟩ := bd_s hm
      refine xr_v (wr := [(a0, e_X0 a1 a2 a3), (a1, eI cA 8 (upd t_holding l1.toNatClampNeg l2)), (a2, eI cA 8 (upd t_sizes l1.toNatClampNeg l3))]) (wn := [(a0, e_X0 a1 a2 a3), (a1, eI cA 8 (upd t_holding l1.toNatClampNeg l2)), (a2, eI cA 8 (upd t_sizes l1.toNatClampNeg l3)), (a3, eJ cA 320 o9)]) (va_runS (As := [.ref a3, .int (l1 * (40 : Int32)), .int ((l1 * (40 : Int32)) + l3), .long (0 : Int64)]) (rest := []) ⟨hx, hb, hml, hown, htg⟩ (c_J7_fill_bad5a l D cA _ fu a3 320 t_elements (l1 * (40 : Int32)) ((l1 * (40 : Int32)) + l3) (0 : Int64) o9 ho10) ⟨callB_of 4 htg (gU q_2_22) rfl rfl rfl (htg _ q_1_4) (htg _ q_2_20) hd_J7_fill_bad5a.2 ⟨Nat.le_of_ble_eq_true rfl, Nat.le_of_ble_eq_true rfl⟩, htg _ q_2_21⟩ (xpS hN hK hP hD [3] rfl (by decide)) rfl rfl hl.1 rfl (lv_room (Nat.le_of_ble_eq_true rfl)) dX0_putRow_46 ⟨Nat.zero_le _, Nat.zero_le _⟩) hP hD hS hA [3] [0, 1, 2] [0, 1, 2, 3] rfl rfl (by decide) (by decide) rfl (by decide) (fun H locs hP hD hS => ?_)
      exact B_49 _ _ _ _ _ _ hm hP hD hS (lv_sub hl [0] rfl)
def b_X0_holdingOf_17 (fu : Nat) (t_holding : Nat → Int32) (s0 : Int32) : Option (Int32 × Unit) :=
  some (s0, ())
def m_X0_holdingOf (fu : Nat) (t_holding : Nat → Int32) (l1 : Int32) : Option (Int32 × Unit) :=
  (m_X5_isShelf fu l1).bind fun o1 =>
  (if o1.1 = 0 then
    b_X0_holdingOf_17 fu t_holding (-1 : Int32)
  else
    gd (inb l1 8) (
    b_X0_holdingOf_17 fu t_holding (t_holding l1.toNatClampNeg)))
abbrev rm_X0_holdingOf : Room := ({ frames := 2, cells := 0, slots := 0, locals := 42 } : Room)
abbrev w0_X0_holdingOf (cA : Nat → ClassId) (a0 : Nat) (a1 : Nat) (a2 : Nat) (a3 : Nat) (t_holding : Nat → Int32) : va_W := [(a0, e_X0 a1 a2 a3), (a1, eI cA 8 t_holding)]
abbrev w1_X0_holdingOf (cA : Nat → ClassId) (a0 : Nat) (a1 : Nat) (a2 : Nat) (a3 : Nat) (t_holding : Nat → Int32) (u : Unit) : va_W := [(a0, e_X0 a1 a2 a3), (a1, eI cA 8 t_holding)]
theorem hd_X0_holdingOf : yX0_holdingOf.cls = RX0 ∧ yX0_holdingOf.cls ≠ "java/lang/invoke/MethodHandle" ∧ yX0_holdingOf.cls ≠ "java/lang/invoke/VarHandle" ∧ (parseMethodDescriptor yX0_holdingOf.desc).map (fun d => d.parameters.length) = some 1 := by decide +kernel
set_option maxHeartbeats 40000000 in
set_option maxRecDepth 100000 in
theorem c_X0_holdingOf (l : Launch) (D : va_G) (cA : Nat → ClassId) (sz : Nat) (fu : Nat) (a0 : Nat) (a1 : Nat) (a2 : Nat) (a3 : Nat) (t_holding : Nat → Int32) (l1 : Int32) (out : Int32 × Unit) (hm : m_X0_holdingOf fu t_holding l1 = some out) : MI l yX0_holdingOf (wU yX0_holdingOf cX0_holdingOf 2 ((Option.some Jvm.ClassFile.FieldType.int))) rm_X0_holdingOf D cA sz [.ref a0, .int l1] (w0_X0_holdingOf cA a0 a1 a2 a3 t_holding) out (w1_X0_holdingOf cA a0 a1 a2 a3 t_holding) := by
  refine Met.ofW (cc := cX0_holdingOf) (maxL := 2) (ret := (Option.some Jvm.ClassFile.FieldType.int)) (by decide) rfl ?_
  intro p e s m args below meth c s₁ B hml hv
  obtain ⟨hargs, hsz, hP, hK, hD0, hN⟩ := hv
  have hx := B.exec
  have hb := B.bytes
  have hr := B.returns
  have htg : ∀ w ∈ gw, w.before args s = true := fun w h => atoms_spec (ws := wU yX0_holdingOf cX0_holdingOf 2 ((Option.some Jvm.ClassFile.FieldType.int))) B.pre w (List.mem_cons_of_mem _ h)
  have hown : s.vm.findClass RX0 = some m.cls := findClass_of_methodNamed B.named
  have hlocks := B.notSynchronized
  subst hsz
  have hD := hD0.self (sz := s.heap.size)
  have hA : ∀ q : Nat, s.heap.size ≤ q → va_A (w0_X0_holdingOf cA a0 a1 a2 a3 t_holding) s.heap.size q := fun q h => Or.inr h
  have hS : va_S (va_A (w0_X0_holdingOf cA a0 a1 a2 a3 t_holding) s.heap.size) s.heap s.heap [] := va_S.rf
  generalize va_A (w0_X0_holdingOf cA a0 a1 a2 a3 t_holding) s.heap.size = A at hA hD hS ⊢
  obtain ⟨Q, hQ⟩ : ∃ Q : State → Prop, Q = MQ below (va_Qi (fun (r : Int32) (u : Unit) => (r, u) = out) (pst0 D cA A (w1_X0_holdingOf cA a0 a1 a2 a3 t_holding)) A) args s 0 0 A := ⟨_, rfl⟩
  refine (?_ : W p l e rm_X0_holdingOf s m args below meth c s.heap [] 0 0 (MQ below (va_Qi (fun (r : Int32) (u : Unit) => (r, u) = out) (pst0 D cA A (w1_X0_holdingOf cA a0 a1 a2 a3 t_holding)) A) args s 0 0 A) (entryFrame m args 2))
  rw [← hQ]
  have hP : va_P D CL [(a0, e_X0 a1 a2 a3), (a1, eI cA 8 t_holding)] s.heap := hP
  have hD : va_D A [(a0, e_X0 a1 a2 a3), (a1, eI cA 8 t_holding)] := hD
  have B_17 : ∀ (s0 : Int32) (H : Heap) (locs : List Loc) (ls : Array Slot), b_X0_holdingOf_17 fu t_holding s0 = some out → va_P D CL [(a0, e_X0 a1 a2 a3), (a1, eI cA 8 t_holding)] H → va_D A [(a0, e_X0 a1 a2 a3), (a1, eI cA 8 t_holding)] → va_S A s.heap H locs → lv_has ls 2 [(0, .ref a0)] → W p l e rm_X0_holdingOf s m args below meth c H locs 0 0 Q (F0 m 17 ls [.int s0]) := by
    intro  s0 H locs ls hm hP hD hS hl
    unfold b_X0_holdingOf_17 at hm
    rw [hQ]
    exact W.iret (v := s0) hx hb hr (fun t9 ht hW => ⟨⟨s0, (), rfl, (Option.some.inj hm), by rw [ht]; exact hP, va_K.moved hW.alike hK, hD⟩, hS.F ht⟩) hS.2.2 dX0_holdingOf_17
  unfold m_X0_holdingOf at hm
  subst hargs
  have hl := lv_entry ([.ref a0, .int l1]) (n := 2) (Nat.le_of_ble_eq_true rfl)
  rw [lg_entry_eq]
  generalize (lg_sl ([.ref a0, .int l1]) ++ List.replicate (2 - (lg_sl ([.ref a0, .int l1])).length) Slot.unset).toArray = ls at hl ⊢
  have hl : lv_has ls 2 [(0, .ref a0), (1, .int l1)] := hl
  refine lv_iload_n hx hb dX0_holdingOf_0 rfl (lv_at hl 1 rfl) ?_
  obtain ⟨o1, ho2, hm⟩ := bd_s hm
  refine xr_i (wr := [(a0, e_X0 a1 a2 a3), (a1, eI cA 8 t_holding)]) (wn := [(a0, e_X0 a1 a2 a3), (a1, eI cA 8 t_holding)]) (va_runSN (As := [.int l1]) (rest := []) ⟨hx, hb, hml, hown, htg⟩ (c_X5_isShelf l D cA _ fu l1 o1 ho2) ⟨va_cnB 1 htg (gU q_2_6) rfl rfl rfl (hN _ q_2_18) (htg _ q_1_1) hd_X5_isShelf.2 ⟨Nat.le_of_ble_eq_true rfl, Nat.le_of_ble_eq_true rfl⟩, htg _ q_2_5, trivial⟩ (xpS hN hK hP hD [] rfl (by decide)) rfl rfl hl.1 rfl (lv_room (Nat.le_of_ble_eq_true rfl)) dX0_holdingOf_1 ⟨Nat.zero_le _, Nat.zero_le _⟩) hP hD hS hA [] [0, 1] [0, 1] rfl rfl (by decide) (by decide) rfl (by decide) (fun H locs hP hD hS => ?_)
  refine lv_if_eq (tgt := 16) hx hb dX0_holdingOf_4 (by decide) (fun c3 => ?_) (fun c3 => ?_)
  · have hm := it_t c3 hm
    refine lv_iconst (v := (-1 : Int32)) hx hb dX0_holdingOf_16 (by decide) ?_
    exact B_17 _ _ _ _ hm hP hD hS (lv_sub hl [0] rfl)
  · have hm := it_f c3 hm
    refine lv_aload_n hx hb dX0_holdingOf_7 rfl (lv_at hl 0 rfl) ?_
    refine va_get (D := D) (ci := 0) (v := .ref a1) (C := RX0) (T := TX0) (N := 3) hx hb htg inX0 hown hK hP 0 rfl rfl 0 (by decide) (htg _ q_1_98) (fun _ h9 => h9) rfl dX0_holdingOf_8 ?_
    refine lv_iload_n hx hb dX0_holdingOf_11 rfl (lv_at hl 1 rfl) ?_
    obtain ⟨hi4, hm⟩ := gd_s hm
    refine va_iald hx hb hK hP 1 0 rfl rfl hi4 dX0_holdingOf_12 ?_
    refine lv_goto (tgt := 17) hx hb dX0_holdingOf_13 (by decide) ?_
    exact B_17 _ _ _ _ hm hP hD hS (lv_sub hl [0] rfl)
def b_X0_hasVoice_15 (fu : Nat) (t_holding : Nat → Int32) (s0 : Int32) : Option (Int32 × Unit) :=
  gd (bz s0) (some (s0, ()))
def m_X0_hasVoice (fu : Nat) (t_holding : Nat → Int32) (l1 : Int32) : Option (Int32 × Unit) :=
  (m_X0_holdingOf fu t_holding l1).bind fun o2 =>
  (if o2.1 < (10 : Int32) then
    b_X0_hasVoice_15 fu t_holding (0 : Int32)
  else
    b_X0_hasVoice_15 fu t_holding (1 : Int32))
abbrev rm_X0_hasVoice : Room := ({ frames := 3, cells := 0, slots := 0, locals := 63 } : Room)
abbrev w0_X0_hasVoice (cA : Nat → ClassId) (a0 : Nat) (a1 : Nat) (a2 : Nat) (a3 : Nat) (t_holding : Nat → Int32) : va_W := [(a0, e_X0 a1 a2 a3), (a1, eI cA 8 t_holding)]
abbrev w1_X0_hasVoice (cA : Nat → ClassId) (a0 : Nat) (a1 : Nat) (a2 : Nat) (a3 : Nat) (t_holding : Nat → Int32) (u : Unit) : va_W := [(a0, e_X0 a1 a2 a3), (a1, eI cA 8 t_holding)]
theorem hd_X0_hasVoice : yX0_hasVoice.cls = RX0 ∧ yX0_hasVoice.cls ≠ "java/lang/invoke/MethodHandle" ∧ yX0_hasVoice.cls ≠ "java/lang/invoke/VarHandle" ∧ (parseMethodDescriptor yX0_hasVoice.desc).map (fun d => d.parameters.length) = some 1 := by decide +kernel
set_option maxHeartbeats 40000000 in
set_option maxRecDepth 100000 in
theorem c_X0_hasVoice (l : Launch) (D : va_G) (cA : Nat → ClassId) (sz : Nat) (fu : Nat) (a0 : Nat) (a1 : Nat) (a2 : Nat) (a3 : Nat) (t_holding : Nat → Int32) (l1 : Int32) (out : Int32 × Unit) (hm : m_X0_hasVoice fu t_holding l1 = some out) : MI l yX0_hasVoice (wU yX0_hasVoice cX0_hasVoice 2 ((Option.some Jvm.ClassFile.FieldType.boolean))) rm_X0_hasVoice D cA sz [.ref a0, .int l1] (w0_X0_hasVoice cA a0 a1 a2 a3 t_holding) out (w1_X0_hasVoice cA a0 a1 a2 a3 t_holding) := by
  refine Met.ofW (cc := cX0_hasVoice) (maxL := 2) (ret := (Option.some Jvm.ClassFile.FieldType.boolean)) (by decide) rfl ?_
  intro p e s m args below meth c s₁ B hml hv
  obtain ⟨hargs, hsz, hP, hK, hD0, hN⟩ := hv
  have hx := B.exec
  have hb := B.bytes
  have hr := B.returns
  have htg : ∀ w ∈ gw, w.before args s = true := fun w h => atoms_spec (ws := wU yX0_hasVoice cX0_hasVoice 2 ((Option.some Jvm.ClassFile.FieldType.boolean))) B.pre w (List.mem_cons_of_mem _ h)
  have hown : s.vm.findClass RX0 = some m.cls := findClass_of_methodNamed B.named
  have hlocks := B.notSynchronized
  subst hsz
  have hD := hD0.self (sz := s.heap.size)
  have hA : ∀ q : Nat, s.heap.size ≤ q → va_A (w0_X0_hasVoice cA a0 a1 a2 a3 t_holding) s.heap.size q := fun q h => Or.inr h
  have hS : va_S (va_A (w0_X0_hasVoice cA a0 a1 a2 a3 t_holding) s.heap.size) s.heap s.heap [] := va_S.rf
  generalize va_A (w0_X0_hasVoice cA a0 a1 a2 a3 t_holding) s.heap.size = A at hA hD hS ⊢
  obtain ⟨Q, hQ⟩ : ∃ Q : State → Prop, Q = MQ below (va_Qi (fun (r : Int32) (u : Unit) => (r, u) = out) (pst0 D cA A (w1_X0_hasVoice cA a0 a1 a2 a3 t_holding)) A) args s 0 0 A := ⟨_, rfl⟩
  refine (?_ : W p l e rm_X0_hasVoice s m args below meth c s.heap [] 0 0 (MQ below (va_Qi (fun (r : Int32) (u : Unit) => (r, u) = out) (pst0 D cA A (w1_X0_hasVoice cA a0 a1 a2 a3 t_holding)) A) args s 0 0 A) (entryFrame m args 2))
  rw [← hQ]
  have hP : va_P D CL [(a0, e_X0 a1 a2 a3), (a1, eI cA 8 t_holding)] s.heap := hP
  have hD : va_D A [(a0, e_X0 a1 a2 a3), (a1, eI cA 8 t_holding)] := hD
  have B_15 : ∀ (s0 : Int32) (H : Heap) (locs : List Loc) (ls : Array Slot), b_X0_hasVoice_15 fu t_holding s0 = some out → va_P D CL [(a0, e_X0 a1 a2 a3), (a1, eI cA 8 t_holding)] H → va_D A [(a0, e_X0 a1 a2 a3), (a1, eI cA 8 t_holding)] → va_S A s.heap H locs → lv_has ls 2 [(0, .ref a0)] → W p l e rm_X0_hasVoice s m args below meth c H locs 0 0 Q (F0 m 15 ls [.int s0]) := by
    intro  s0 H locs ls hm hP hD hS hl
    unfold b_X0_hasVoice_15 at hm
    obtain ⟨hz1, hm⟩ := gd_s hm
    rw [hQ]
    exact W.zret (v := s0) hx hb hr (bz_nr hz1) (fun t9 ht hW => ⟨⟨s0, (), rfl, (Option.some.inj hm), by rw [ht]; exact hP, va_K.moved hW.alike hK, hD⟩, hS.F ht⟩) hS.2.2 dX0_hasVoice_15
  unfold m_X0_hasVoice at hm
  subst hargs
  have hl := lv_entry ([.ref a0, .int l1]) (n := 2) (Nat.le_of_ble_eq_true rfl)
  rw [lg_entry_eq]
  generalize (lg_sl ([.ref a0, .int l1]) ++ List.replicate (2 - (lg_sl ([.ref a0, .int l1])).length) Slot.unset).toArray = ls at hl ⊢
  have hl : lv_has ls 2 [(0, .ref a0), (1, .int l1)] := hl
  refine lv_aload_n hx hb dX0_hasVoice_0 rfl (lv_at hl 0 rfl) ?_
  refine lv_iload_n hx hb dX0_hasVoice_1 rfl (lv_at hl 1 rfl) ?_
  obtain ⟨o2, ho3, hm⟩ := bd_s hm
  refine xr_i (wr := []) (wn := [(a0, e_X0 a1 a2 a3), (a1, eI cA 8 t_holding)]) (va_runV (As := [.int l1]) (rest := []) ⟨hx, hb, hml, hown, htg⟩ (c_X0_holdingOf l D cA _ fu a0 a1 a2 a3 t_holding l1 o2 ho3) (cwV 1 htg (gV q_2_34 q_2_36 q_p1_3 q_1_3 q_2_37) rfl rfl rfl hd_X0_holdingOf ⟨Nat.le_of_ble_eq_true rfl, Nat.le_of_ble_eq_true rfl⟩) (xpV hN hK hP hD [0, 1] rfl (by decide) rfl rfl) rfl rfl hl.1 rfl (lv_room (Nat.le_of_ble_eq_true rfl)) dX0_hasVoice_2 ⟨Nat.zero_le _, Nat.zero_le _⟩) hP hD hS hA [0, 1] [] [0, 1] rfl rfl (by decide) (by decide) rfl (by decide) (fun H locs hP hD hS => ?_)
  refine lv_bipush (v := (10 : Int32)) hx hb dX0_hasVoice_5 (by decide) ?_
  refine lv_icmp_lt (tgt := 14) hx hb dX0_hasVoice_7 (by decide) (fun c4 => ?_) (fun c4 => ?_)
  · have hm := it_t c4 hm
    refine lv_iconst (v := (0 : Int32)) hx hb dX0_hasVoice_14 (by decide) ?_
    exact B_15 _ _ _ _ hm hP hD hS (lv_sub hl [0] rfl)
  · have hm := it_f c4 hm
    refine lv_iconst (v := (1 : Int32)) hx hb dX0_hasVoice_10 (by decide) ?_
    refine lv_goto (tgt := 15) hx hb dX0_hasVoice_11 (by decide) ?_
    exact B_15 _ _ _ _ hm hP hD hS (lv_sub hl [0] rfl)
def b_X0_isBare_14 (fu : Nat) (t_holding : Nat → Int32) (s0 : Int32) : Option (Int32 × Unit) :=
  gd (bz s0) (some (s0, ()))
def m_X0_isBare (fu : Nat) (t_holding : Nat → Int32) (l1 : Int32) : Option (Int32 × Unit) :=
  (m_X0_holdingOf fu t_holding l1).bind fun o2 =>
  (if o2.1 = (-1 : Int32) then
    b_X0_isBare_14 fu t_holding (1 : Int32)
  else
    b_X0_isBare_14 fu t_holding (0 : Int32))
abbrev rm_X0_isBare : Room := ({ frames := 3, cells := 0, slots := 0, locals := 63 } : Room)
abbrev w0_X0_isBare (cA : Nat → ClassId) (a0 : Nat) (a1 : Nat) (a2 : Nat) (a3 : Nat) (t_holding : Nat → Int32) : va_W := [(a0, e_X0 a1 a2 a3), (a1, eI cA 8 t_holding)]
abbrev w1_X0_isBare (cA : Nat → ClassId) (a0 : Nat) (a1 : Nat) (a2 : Nat) (a3 : Nat) (t_holding : Nat → Int32) (u : Unit) : va_W := [(a0, e_X0 a1 a2 a3), (a1, eI cA 8 t_holding)]
theorem hd_X0_isBare : yX0_isBare.cls = RX0 ∧ yX0_isBare.cls ≠ "java/lang/invoke/MethodHandle" ∧ yX0_isBare.cls ≠ "java/lang/invoke/VarHandle" ∧ (parseMethodDescriptor yX0_isBare.desc).map (fun d => d.parameters.length) = some 1 := by decide +kernel
set_option maxHeartbeats 40000000 in
set_option maxRecDepth 100000 in
theorem c_X0_isBare (l : Launch) (D : va_G) (cA : Nat → ClassId) (sz : Nat) (fu : Nat) (a0 : Nat) (a1 : Nat) (a2 : Nat) (a3 : Nat) (t_holding : Nat → Int32) (l1 : Int32) (out : Int32 × Unit) (hm : m_X0_isBare fu t_holding l1 = some out) : MI l yX0_isBare (wU yX0_isBare cX0_isBare 2 ((Option.some Jvm.ClassFile.FieldType.boolean))) rm_X0_isBare D cA sz [.ref a0, .int l1] (w0_X0_isBare cA a0 a1 a2 a3 t_holding) out (w1_X0_isBare cA a0 a1 a2 a3 t_holding) := by
  refine Met.ofW (cc := cX0_isBare) (maxL := 2) (ret := (Option.some Jvm.ClassFile.FieldType.boolean)) (by decide) rfl ?_
  intro p e s m args below meth c s₁ B hml hv
  obtain ⟨hargs, hsz, hP, hK, hD0, hN⟩ := hv
  have hx := B.exec
  have hb := B.bytes
  have hr := B.returns
  have htg : ∀ w ∈ gw, w.before args s = true := fun w h => atoms_spec (ws := wU yX0_isBare cX0_isBare 2 ((Option.some Jvm.ClassFile.FieldType.boolean))) B.pre w (List.mem_cons_of_mem _ h)
  have hown : s.vm.findClass RX0 = some m.cls := findClass_of_methodNamed B.named
  have hlocks := B.notSynchronized
  subst hsz
  have hD := hD0.self (sz := s.heap.size)
  have hA : ∀ q : Nat, s.heap.size ≤ q → va_A (w0_X0_isBare cA a0 a1 a2 a3 t_holding) s.heap.size q := fun q h => Or.inr h
  have hS : va_S (va_A (w0_X0_isBare cA a0 a1 a2 a3 t_holding) s.heap.size) s.heap s.heap [] := va_S.rf
  generalize va_A (w0_X0_isBare cA a0 a1 a2 a3 t_holding) s.heap.size = A at hA hD hS ⊢
  obtain ⟨Q, hQ⟩ : ∃ Q : State → Prop, Q = MQ below (va_Qi (fun (r : Int32) (u : Unit) => (r, u) = out) (pst0 D cA A (w1_X0_isBare cA a0 a1 a2 a3 t_holding)) A) args s 0 0 A := ⟨_, rfl⟩
  refine (?_ : W p l e rm_X0_isBare s m args below meth c s.heap [] 0 0 (MQ below (va_Qi (fun (r : Int32) (u : Unit) => (r, u) = out) (pst0 D cA A (w1_X0_isBare cA a0 a1 a2 a3 t_holding)) A) args s 0 0 A) (entryFrame m args 2))
  rw [← hQ]
  have hP : va_P D CL [(a0, e_X0 a1 a2 a3), (a1, eI cA 8 t_holding)] s.heap := hP
  have hD : va_D A [(a0, e_X0 a1 a2 a3), (a1, eI cA 8 t_holding)] := hD
  have B_14 : ∀ (s0 : Int32) (H : Heap) (locs : List Loc) (ls : Array Slot), b_X0_isBare_14 fu t_holding s0 = some out → va_P D CL [(a0, e_X0 a1 a2 a3), (a1, eI cA 8 t_holding)] H → va_D A [(a0, e_X0 a1 a2 a3), (a1, eI cA 8 t_holding)] → va_S A s.heap H locs → lv_has ls 2 [(0, .ref a0)] → W p l e rm_X0_isBare s m args below meth c H locs 0 0 Q (F0 m 14 ls [.int s0]) := by
    intro  s0 H locs ls hm hP hD hS hl
    unfold b_X0_isBare_14 at hm
    obtain ⟨hz1, hm⟩ := gd_s hm
    rw [hQ]
    exact W.zret (v := s0) hx hb hr (bz_nr hz1) (fun t9 ht hW => ⟨⟨s0, (), rfl, (Option.some.inj hm), by rw [ht]; exact hP, va_K.moved hW.alike hK, hD⟩, hS.F ht⟩) hS.2.2 dX0_isBare_14
  unfold m_X0_isBare at hm
  subst hargs
  have hl := lv_entry ([.ref a0, .int l1]) (n := 2) (Nat.le_of_ble_eq_true rfl)
  rw [lg_entry_eq]
  generalize (lg_sl ([.ref a0, .int l1]) ++ List.replicate (2 - (lg_sl ([.ref a0, .int l1])).length) Slot.unset).toArray = ls at hl ⊢
  have hl : lv_has ls 2 [(0, .ref a0), (1, .int l1)] := hl
  refine lv_aload_n hx hb dX0_isBare_0 rfl (lv_at hl 0 rfl) ?_
  refine lv_iload_n hx hb dX0_isBare_1 rfl (lv_at hl 1 rfl) ?_
  obtain ⟨o2, ho3, hm⟩ := bd_s hm
  refine xr_i (wr := []) (wn := [(a0, e_X0 a1 a2 a3), (a1, eI cA 8 t_holding)]) (va_runV (As := [.int l1]) (rest := []) ⟨hx, hb, hml, hown, htg⟩ (c_X0_holdingOf l D cA _ fu a0 a1 a2 a3 t_holding l1 o2 ho3) (cwV 1 htg (gV q_2_34 q_2_36 q_p1_3 q_1_3 q_2_37) rfl rfl rfl hd_X0_holdingOf ⟨Nat.le_of_ble_eq_true rfl, Nat.le_of_ble_eq_true rfl⟩) (xpV hN hK hP hD [0, 1] rfl (by decide) rfl rfl) rfl rfl hl.1 rfl (lv_room (Nat.le_of_ble_eq_true rfl)) dX0_isBare_2 ⟨Nat.zero_le _, Nat.zero_le _⟩) hP hD hS hA [0, 1] [] [0, 1] rfl rfl (by decide) (by decide) rfl (by decide) (fun H locs hP hD hS => ?_)
  refine lv_iconst (v := (-1 : Int32)) hx hb dX0_isBare_5 (by decide) ?_
  refine lv_icmp_ne (tgt := 13) hx hb dX0_isBare_6 (by decide) (fun c4 => ?_) (fun c4 => ?_)
  · have hm := it_f c4 hm
    refine lv_iconst (v := (0 : Int32)) hx hb dX0_isBare_13 (by decide) ?_
    exact B_14 _ _ _ _ hm hP hD hS (lv_sub hl [0] rfl)
  · have hm := it_t c4 hm
    refine lv_iconst (v := (1 : Int32)) hx hb dX0_isBare_9 (by decide) ?_
    refine lv_goto (tgt := 14) hx hb dX0_isBare_10 (by decide) ?_
    exact B_14 _ _ _ _ hm hP hD hS (lv_sub hl [0] rfl)
def b_X0_hasPlaces_42 (fu : Nat) (t_sizes : Nat → Int32) (s0 : Int32) : Option (Int32 × Unit) :=
  gd (bz s0) (some (s0, ()))
def b_X0_hasPlaces_41 (fu : Nat) (t_sizes : Nat → Int32)  : Option (Int32 × Unit) :=
  b_X0_hasPlaces_42 fu t_sizes (0 : Int32)
def m_X0_hasPlaces (fu : Nat) (t_sizes : Nat → Int32) (l1 : Int32) (l2 : Int32) (l3 : Int32) : Option (Int32 × Unit) :=
  (m_X5_isShelf fu l1).bind fun o2 =>
  (if o2.1 = 0 then
    b_X0_hasPlaces_41 fu t_sizes 
  else
    gd (inb l1 8) (
    (m_X5_isWithin fu l3 (0 : Int32) (t_sizes l1.toNatClampNeg)).bind fun o6 =>
    (if o6.1 = 0 then
      b_X0_hasPlaces_41 fu t_sizes 
    else
      gd (inb l1 8) (
      (m_X5_isWithin fu l2 (0 : Int32) ((t_sizes l1.toNatClampNeg) - l3)).bind fun o10 =>
      (if o10.1 = 0 then
        b_X0_hasPlaces_41 fu t_sizes 
      else
        b_X0_hasPlaces_42 fu t_sizes (1 : Int32))))))
abbrev rm_X0_hasPlaces : Room := ({ frames := 2, cells := 0, slots := 0, locals := 42 } : Room)
abbrev w0_X0_hasPlaces (cA : Nat → ClassId) (a0 : Nat) (a1 : Nat) (a2 : Nat) (a3 : Nat) (t_sizes : Nat → Int32) : va_W := [(a0, e_X0 a1 a2 a3), (a2, eI cA 8 t_sizes)]
abbrev w1_X0_hasPlaces (cA : Nat → ClassId) (a0 : Nat) (a1 : Nat) (a2 : Nat) (a3 : Nat) (t_sizes : Nat → Int32) (u : Unit) : va_W := [(a0, e_X0 a1 a2 a3), (a2, eI cA 8 t_sizes)]
theorem hd_X0_hasPlaces : yX0_hasPlaces.cls = RX0 ∧ yX0_hasPlaces.cls ≠ "java/lang/invoke/MethodHandle" ∧ yX0_hasPlaces.cls ≠ "java/lang/invoke/VarHandle" ∧ (parseMethodDescriptor yX0_hasPlaces.desc).map (fun d => d.parameters.length) = some 3 := by decide +kernel
set_option maxHeartbeats 40000000 in
set_option maxRecDepth 100000 in
theorem c_X0_hasPlaces (l : Launch) (D : va_G) (cA : Nat → ClassId) (sz : Nat) (fu : Nat) (a0 : Nat) (a1 : Nat) (a2 : Nat) (a3 : Nat) (t_sizes : Nat → Int32) (l1 : Int32) (l2 : Int32) (l3 : Int32) (out : Int32 × Unit) (hm : m_X0_hasPlaces fu t_sizes l1 l2 l3 = some out) : MI l yX0_hasPlaces (wU yX0_hasPlaces cX0_hasPlaces 4 ((Option.some Jvm.ClassFile.FieldType.boolean))) rm_X0_hasPlaces D cA sz [.ref a0, .int l1, .int l2, .int l3] (w0_X0_hasPlaces cA a0 a1 a2 a3 t_sizes) out (w1_X0_hasPlaces cA a0 a1 a2 a3 t_sizes) := by
  refine Met.ofW (cc := cX0_hasPlaces) (maxL := 4) (ret := (Option.some Jvm.ClassFile.FieldType.boolean)) (by decide) rfl ?_
  intro p e s m args below meth c s₁ B hml hv
  obtain ⟨hargs, hsz, hP, hK, hD0, hN⟩ := hv
  have hx := B.exec
  have hb := B.bytes
  have hr := B.returns
  have htg : ∀ w ∈ gw, w.before args s = true := fun w h => atoms_spec (ws := wU yX0_hasPlaces cX0_hasPlaces 4 ((Option.some Jvm.ClassFile.FieldType.boolean))) B.pre w (List.mem_cons_of_mem _ h)
  have hown : s.vm.findClass RX0 = some m.cls := findClass_of_methodNamed B.named
  have hlocks := B.notSynchronized
  subst hsz
  have hD := hD0.self (sz := s.heap.size)
  have hA : ∀ q : Nat, s.heap.size ≤ q → va_A (w0_X0_hasPlaces cA a0 a1 a2 a3 t_sizes) s.heap.size q := fun q h => Or.inr h
  have hS : va_S (va_A (w0_X0_hasPlaces cA a0 a1 a2 a3 t_sizes) s.heap.size) s.heap s.heap [] := va_S.rf
  generalize va_A (w0_X0_hasPlaces cA a0 a1 a2 a3 t_sizes) s.heap.size = A at hA hD hS ⊢
  obtain ⟨Q, hQ⟩ : ∃ Q : State → Prop, Q = MQ below (va_Qi (fun (r : Int32) (u : Unit) => (r, u) = out) (pst0 D cA A (w1_X0_hasPlaces cA a0 a1 a2 a3 t_sizes)) A) args s 0 0 A := ⟨_, rfl⟩
  refine (?_ : W p l e rm_X0_hasPlaces s m args below meth c s.heap [] 0 0 (MQ below (va_Qi (fun (r : Int32) (u : Unit) => (r, u) = out) (pst0 D cA A (w1_X0_hasPlaces cA a0 a1 a2 a3 t_sizes)) A) args s 0 0 A) (entryFrame m args 4))
  rw [← hQ]
  have hP : va_P D CL [(a0, e_X0 a1 a2 a3), (a2, eI cA 8 t_sizes)] s.heap := hP
  have hD : va_D A [(a0, e_X0 a1 a2 a3), (a2, eI cA 8 t_sizes)] := hD
  have B_42 : ∀ (s0 : Int32) (H : Heap) (locs : List Loc) (ls : Array Slot), b_X0_hasPlaces_42 fu t_sizes s0 = some out → va_P D CL [(a0, e_X0 a1 a2 a3), (a2, eI cA 8 t_sizes)] H → va_D A [(a0, e_X0 a1 a2 a3), (a2, eI cA 8 t_sizes)] → va_S A s.heap H locs → lv_has ls 4 [(0, .ref a0)] → W p l e rm_X0_hasPlaces s m args below meth c H locs 0 0 Q (F0 m 42 ls [.int s0]) := by
    intro  s0 H locs ls hm hP hD hS hl
    unfold b_X0_hasPlaces_42 at hm
    obtain ⟨hz1, hm⟩ := gd_s hm
    rw [hQ]
    exact W.zret (v := s0) hx hb hr (bz_nr hz1) (fun t9 ht hW => ⟨⟨s0, (), rfl, (Option.some.inj hm), by rw [ht]; exact hP, va_K.moved hW.alike hK, hD⟩, hS.F ht⟩) hS.2.2 dX0_hasPlaces_42
  have B_41 : ∀  (H : Heap) (locs : List Loc) (ls : Array Slot), b_X0_hasPlaces_41 fu t_sizes  = some out → va_P D CL [(a0, e_X0 a1 a2 a3), (a2, eI cA 8 t_sizes)] H → va_D A [(a0, e_X0 a1 a2 a3), (a2, eI cA 8 t_sizes)] → va_S A s.heap H locs → lv_has ls 4 [(0, .ref a0)] → W p l e rm_X0_hasPlaces s m args below meth c H locs 0 0 Q (F0 m 41 ls []) := by
    intro   H locs ls hm hP hD hS hl
    unfold b_X0_hasPlaces_41 at hm
    refine lv_iconst (v := (0 : Int32)) hx hb dX0_hasPlaces_41 (by decide) ?_
    exact B_42 _ _ _ _ hm hP hD hS (lv_sub hl [0] rfl)
  unfold m_X0_hasPlaces at hm
  subst hargs
  have hl := lv_entry ([.ref a0, .int l1, .int l2, .int l3]) (n := 4) (Nat.le_of_ble_eq_true rfl)
  rw [lg_entry_eq]
  generalize (lg_sl ([.ref a0, .int l1, .int l2, .int l3]) ++ List.replicate (4 - (lg_sl ([.ref a0, .int l1, .int l2, .int l3])).length) Slot.unset).toArray = ls at hl ⊢
  have hl : lv_has ls 4 [(0, .ref a0), (1, .int l1), (2, .int l2), (3, .int l3)] := hl
  refine lv_iload_n hx hb dX0_hasPlaces_0 rfl (lv_at hl 1 rfl) ?_
  obtain ⟨o2, ho3, hm⟩ := bd_s hm
  refine xr_i (wr := [(a0, e_X0 a1 a2 a3), (a2, eI cA 8 t_sizes)]) (wn := [(a0, e_X0 a1 a2 a3), (a2, eI cA 8 t_sizes)]) (va_runSN (As := [.int l1]) (rest := []) ⟨hx, hb, hml, hown, htg⟩ (c_X5_isShelf l D cA _ fu l1 o2 ho3) ⟨va_cnB 1 htg (gU q_2_6) rfl rfl rfl (hN _ q_2_18) (htg _ q_1_1) hd_X5_isShelf.2 ⟨Nat.le_of_ble_eq_true rfl, Nat.le_of_ble_eq_true rfl⟩, htg _ q_2_5, trivial⟩ (xpS hN hK hP hD [] rfl (by decide)) rfl rfl hl.1 rfl (lv_room (Nat.le_of_ble_eq_true rfl)) dX0_hasPlaces_1 ⟨Nat.zero_le _, Nat.zero_le _⟩) hP hD hS hA [] [0, 1] [0, 1] rfl rfl (by decide) (by decide) rfl (by decide) (fun H locs hP hD hS => ?_)
  refine lv_if_eq (tgt := 41) hx hb dX0_hasPlaces_4 (by decide) (fun c4 => ?_) (fun c4 => ?_)
  · have hm := it_t c4 hm
    exact B_41  _ _ _ hm hP hD hS (lv_sub hl [0] rfl)
  · have hm := it_f c4 hm
    refine lv_iload_n hx hb dX0_hasPlaces_7 rfl (lv_at hl 3 rfl) ?_
    refine lv_iconst (v := (0 : Int32)) hx hb dX0_hasPlaces_8 (by decide) ?_
    refine lv_aload_n hx hb dX0_hasPlaces_9 rfl (lv_at hl 0 rfl) ?_
    refine va_get (D := D) (ci := 0) (v := .ref a2) (C := RX0) (T := TX0) (N := 3) hx hb htg inX0 hown hK hP 0 rfl rfl 1 (by decide) (htg _ q_1_99) (fun _ h9 => h9) rfl dX0_hasPlaces_10 ?_
    refine lv_iload_n hx hb dX0_hasPlaces_13 rfl (lv_at hl 1 rfl) ?_
    obtain ⟨hi5, hm⟩ := gd_s hm
    refine va_iald hx hb hK hP 1 0 rfl rfl hi5 dX0_hasPlaces_14 ?_
    obtain ⟨o6, ho7, hm⟩ := bd_s hm
    refine xr_i (wr := [(a0, e_X0 a1 a2 a3), (a2, eI cA 8 t_sizes)]) (wn := [(a0, e_X0 a1 a2 a3), (a2, eI cA 8 t_sizes)]) (va_runSN (As := [.int l3, .int (0 : Int32), .int (t_sizes l1.toNatClampNeg)]) (rest := []) ⟨hx, hb, hml, hown, htg⟩ (c_X5_isWithin l D cA _ fu l3 (0 : Int32) (t_sizes l1.toNatClampNeg) o6 ho7) ⟨va_cnB 3 htg (gU q_2_9) rfl rfl rfl (hN _ q_2_19) (htg _ q_1_1) hd_X5_isWithin.2 ⟨Nat.le_of_ble_eq_true rfl, Nat.le_of_ble_eq_true rfl⟩, htg _ q_2_8, trivial⟩ (xpS hN hK hP hD [] rfl (by decide)) rfl rfl hl.1 rfl (lv_room (Nat.le_of_ble_eq_true rfl)) dX0_hasPlaces_15 ⟨Nat.zero_le _, Nat.zero_le _⟩) hP hD hS hA [] [0, 1] [0, 1] rfl rfl (by decide) (by decide) rfl (by decide) (fun H locs hP hD hS => ?_)
    refine lv_if_eq (tgt := 41) hx hb dX0_hasPlaces_18 (by decide) (fun c8 => ?_) (fun c8 => ?_)
    · have hm := it_t c8 hm
      exact B_41  _ _ _ hm hP hD hS (lv_sub hl [0] rfl)
    · have hm := it_f c8 hm
      refine lv_iload_n hx hb dX0_hasPlaces_21 rfl (lv_at hl 2 rfl) ?_
      refine lv_iconst (v := (0 : Int32)) hx hb dX0_hasPlaces_22 (by decide) ?_
      refine lv_aload_n hx hb dX0_hasPlaces_23 rfl (lv_at hl 0 rfl) ?_
      refine va_get (D := D) (ci := 0) (v := .ref a2) (C := RX0) (T := TX0) (N := 3) hx hb htg inX0 hown hK hP 0 rfl rfl 1 (by decide) (htg _ q_1_99) (fun _ h9 => h9) rfl dX0_hasPlaces_24 ?_
      refine lv_iload_n hx hb dX0_hasPlaces_27 rfl (lv_at hl 1 rfl) ?_
      obtain ⟨hi9, hm⟩ := gd_s hm
      refine va_iald hx hb hK hP 1 0 rfl rfl hi9 dX0_hasPlaces_28 ?_
      refine lv_iload_n hx hb dX0_hasPlaces_29 rfl (lv_at hl 3 rfl) ?_
      refine lv_isub hx hb dX0_hasPlaces_30 ?_
      obtain ⟨o10, ho11, hm⟩ := bd_s hm
      refine xr_i (wr := [(a0, e_X0 a1 a2 a3), (a2, eI cA 8 t_sizes)]) (wn := [(a0, e_X0 a1 a2 a3), (a2, eI cA 8 t_sizes)]) (va_runSN (As := [.int l2, .int (0 : Int32), .int ((t_sizes l1.toNatClampNeg) - l3)]) (rest := []) ⟨hx, hb, hml, hown, htg⟩ (c_X5_isWithin l D cA _ fu l2 (0 : Int32) ((t_sizes l1.toNatClampNeg) - l3) o10 ho11) ⟨va_cnB 3 htg (gU q_2_9) rfl rfl rfl (hN _ q_2_19) (htg _ q_1_1) hd_X5_isWithin.2 ⟨Nat.le_of_ble_eq_true rfl, Nat.le_of_ble_eq_true rfl⟩, htg _ q_2_8, trivial⟩ (xpS hN hK hP hD [] rfl (by decide)) rfl rfl hl.1 rfl (lv_room (Nat.le_of_ble_eq_true rfl)) dX0_hasPlaces_31 ⟨Nat.zero_le _, Nat.zero_le _⟩) hP hD hS hA [] [0, 1] [0, 1] rfl rfl (by decide) (by decide) rfl (by decide) (fun H locs hP hD hS => ?_)
      refine lv_if_eq (tgt := 41) hx hb dX0_hasPlaces_34 (by decide) (fun c12 => ?_) (fun c12 => ?_)
      · have hm := it_t c12 hm
        exact B_41  _ _ _ hm hP hD hS (lv_sub hl [0] rfl)
      · have hm := it_f c12 hm
        refine lv_iconst (v := (1 : Int32)) hx hb dX0_hasPlaces_37 (by decide) ?_
        refine lv_goto (tgt := 42) hx hb dX0_hasPlaces_38 (by decide) ?_
        exact B_42 _ _ _ _ hm hP hD hS (lv_sub hl [0] rfl)
def b_X0_asKept_61 (fu : Nat) (s0 : Int64) : Option (Int64 × Unit) :=
  some (s0, ())
def m_X0_asKept (fu : Nat) (l0 : Int32) (l1 : Int64) : Option (Int64 × Unit) :=
  (if l0 = (0 : Int32) then
    some (l1.toInt32.toInt8.toInt32.toInt64, ())
  else (if l0 = (1 : Int32) then
    some (l1.toInt32.toInt16.toInt32.toInt64, ())
  else (if l0 = (2 : Int32) then
    some (l1.toInt32.toInt64, ())
  else (if l0 = (3 : Int32) then
    some (l1, ())
  else (if l0 = (4 : Int32) then
    (if (lg_cmp l1 (0 : Int64)) = 0 then
      b_X0_asKept_61 fu (0 : Int64)
    else
      b_X0_asKept_61 fu (1 : Int64))
  else some (l1, ()))))))
abbrev rm_X0_asKept : Room := ({ frames := 0, cells := 0, slots := 0, locals := 0 } : Room)
abbrev w0_X0_asKept (cA : Nat → ClassId)  : va_W := []
abbrev w1_X0_asKept (cA : Nat → ClassId)  (u : Unit) : va_W := []
theorem hd_X0_asKept : yX0_asKept.cls = RX0 ∧ yX0_asKept.cls ≠ "java/lang/invoke/MethodHandle" ∧ yX0_asKept.cls ≠ "java/lang/invoke/VarHandle" ∧ (parseMethodDescriptor yX0_asKept.desc).map (fun d => d.parameters.length) = some 2 := by decide +kernel
set_option maxHeartbeats 40000000 in
set_option maxRecDepth 100000 in
theorem c_X0_asKept (l : Launch) (D : va_G) (cA : Nat → ClassId) (sz : Nat) (fu : Nat) (l0 : Int32) (l1 : Int64) (out : Int64 × Unit) (hm : m_X0_asKept fu l0 l1 = some out) : ML l yX0_asKept (wU yX0_asKept cX0_asKept 3 ((Option.some Jvm.ClassFile.FieldType.long))) rm_X0_asKept D cA sz [.int l0, .long l1] (w0_X0_asKept cA ) out (w1_X0_asKept cA ) := by
  refine Met.ofW (cc := cX0_asKept) (maxL := 3) (ret := (Option.some Jvm.ClassFile.FieldType.long)) (by decide) rfl ?_
  intro p e s m args below meth c s₁ B hml hv
  obtain ⟨hargs, hsz, hP, hK, hD0, hN⟩ := hv
  have hx := B.exec
  have hb := B.bytes
  have hr := B.returns
  have htg : ∀ w ∈ gw, w.before args s = true := fun w h => atoms_spec (ws := wU yX0_asKept cX0_asKept 3 ((Option.some Jvm.ClassFile.FieldType.long))) B.pre w (List.mem_cons_of_mem _ h)
  have hown : s.vm.findClass RX0 = some m.cls := findClass_of_methodNamed B.named
  have hlocks := B.notSynchronized
  subst hsz
  have hD := hD0.self (sz := s.heap.size)
  have hA : ∀ q : Nat, s.heap.size ≤ q → va_A (w0_X0_asKept cA ) s.heap.size q := fun q h => Or.inr h
  have hS : va_S (va_A (w0_X0_asKept cA ) s.heap.size) s.heap s.heap [] := va_S.rf
  generalize va_A (w0_X0_asKept cA ) s.heap.size = A at hA hD hS ⊢
  obtain ⟨Q, hQ⟩ : ∃ Q : State → Prop, Q = MQ below (va_Ql (fun (r : Int64) (u : Unit) => (r, u) = out) (pst0 D cA A (w1_X0_asKept cA )) A) args s 0 0 A := ⟨_, rfl⟩
  refine (?_ : W p l e rm_X0_asKept s m args below meth c s.heap [] 0 0 (MQ below (va_Ql (fun (r : Int64) (u : Unit) => (r, u) = out) (pst0 D cA A (w1_X0_asKept cA )) A) args s 0 0 A) (entryFrame m args 3))
  rw [← hQ]
  have hP : va_P D CL [] s.heap := hP
  have hD : va_D A [] := hD
  have B_61 : ∀ (s0 : Int64) (H : Heap) (locs : List Loc) (ls : Array Slot), b_X0_asKept_61 fu s0 = some out → va_P D CL [] H → va_D A [] → va_S A s.heap H locs → lv_has ls 3 [] → W p l e rm_X0_asKept s m args below meth c H locs 0 0 Q (F0 m 61 ls [.long s0]) := by
    intro  s0 H locs ls hm hP hD hS hl
    unfold b_X0_asKept_61 at hm
    rw [hQ]
    exact W.lret (v := s0) hx hb hr (fun t9 ht hW => ⟨⟨s0, (), rfl, (Option.some.inj hm), by rw [ht]; exact hP, va_K.moved hW.alike hK, hD⟩, hS.F ht⟩) hS.2.2 dX0_asKept_61
  unfold m_X0_asKept at hm
  subst hargs
  have hl := lv_entry ([.int l0, .long l1]) (n := 3) (Nat.le_of_ble_eq_true rfl)
  rw [lg_entry_eq]
  generalize (lg_sl ([.int l0, .long l1]) ++ List.replicate (3 - (lg_sl ([.int l0, .long l1])).length) Slot.unset).toArray = ls at hl ⊢
  have hl : lv_has ls 3 [(0, .int l0), (1, .long l1)] := hl
  refine lv_iload_n hx hb dX0_asKept_0 rfl (lv_at hl 0 rfl) ?_
  by_cases c1 : l0 = (0 : Int32)
  · have hm := it_t c1 hm
    have he : (l0).toInt = 0 := by rw [c1]; decide
    refine lv_tableIn (tgt := 36) (off := 35) hx hb dX0_asKept_1 (by rw [he]; decide) (by rw [he]; decide) (by rw [he]; rfl) (by decide) ?_
    refine lv_lload_n hx hb dX0_asKept_36 rfl (lv_at hl 1 rfl) ?_
    refine lv_l2i hx hb dX0_asKept_37 rfl ?_
    refine lv_i2b hx hb dX0_asKept_38 rfl ?_
    refine lv_i2l hx hb dX0_asKept_39 rfl ?_
    rw [hQ]
    exact W.lret (v := l1.toInt32.toInt8.toInt32.toInt64) hx hb hr (fun t9 ht hW => ⟨⟨l1.toInt32.toInt8.toInt32.toInt64, (), rfl, (Option.some.inj hm), by rw [ht]; exact hP, va_K.moved hW.alike hK, hD⟩, hS.F ht⟩) hS.2.2 dX0_asKept_40
  have hm := it_f c1 hm
  by_cases c2 : l0 = (1 : Int32)
  · have hm := it_t c2 hm
    have he : (l0).toInt = 1 := by rw [c2]; decide
    refine lv_tableIn (tgt := 41) (off := 40) hx hb dX0_asKept_1 (by rw [he]; decide) (by rw [he]; decide) (by rw [he]; rfl) (by decide) ?_
    refine lv_lload_n hx hb dX0_asKept_41 rfl (lv_at hl 1 rfl) ?_
    refine lv_l2i hx hb dX0_asKept_42 rfl ?_
    refine lv_i2s hx hb dX0_asKept_43 rfl ?_
    refine lv_i2l hx hb dX0_asKept_44 rfl ?_
    rw [hQ]
    exact W.lret (v := l1.toInt32.toInt16.toInt32.toInt64) hx hb hr (fun t9 ht hW => ⟨⟨l1.toInt32.toInt16.toInt32.toInt64, (), rfl, (Option.some.inj hm), by rw [ht]; exact hP, va_K.moved hW.alike hK, hD⟩, hS.F ht⟩) hS.2.2 dX0_asKept_45
  have hm := it_f c2 hm
  by_cases c3 : l0 = (2 : Int32)
  · have hm := it_t c3 hm
    have he : (l0).toInt = 2 := by rw [c3]; decide
    refine lv_tableIn (tgt := 46) (off := 45) hx hb dX0_asKept_1 (by rw [he]; decide) (by rw [he]; decide) (by rw [he]; rfl) (by decide) ?_
    refine lv_lload_n hx hb dX0_asKept_46 rfl (lv_at hl 1 rfl) ?_
    refine lv_l2i hx hb dX0_asKept_47 rfl ?_
    refine lv_i2l hx hb dX0_asKept_48 rfl ?_
    rw [hQ]
    exact W.lret (v := l1.toInt32.toInt64) hx hb hr (fun t9 ht hW => ⟨⟨l1.toInt32.toInt64, (), rfl, (Option.some.inj hm), by rw [ht]; exact hP, va_K.moved hW.alike hK, hD⟩, hS.F ht⟩) hS.2.2 dX0_asKept_49
  have hm := it_f c3 hm
  by_cases c4 : l0 = (3 : Int32)
  · have hm := it_t c4 hm
    have he : (l0).toInt = 3 := by rw [c4]; decide
    refine lv_tableIn (tgt := 62) (off := 61) hx hb dX0_asKept_1 (by rw [he]; decide) (by rw [he]; decide) (by rw [he]; rfl) (by decide) ?_
    refine lv_lload_n hx hb dX0_asKept_62 rfl (lv_at hl 1 rfl) ?_
    rw [hQ]
    exact W.lret (v := l1) hx hb hr (fun t9 ht hW => ⟨⟨l1, (), rfl, (Option.some.inj hm), by rw [ht]; exact hP, va_K.moved hW.alike hK, hD⟩, hS.F ht⟩) hS.2.2 dX0_asKept_63
  have hm := it_f c4 hm
  by_cases c5 : l0 = (4 : Int32)
  · have hm := it_t c5 hm
    have he : (l0).toInt = 4 := by rw [c5]; decide
    refine lv_tableIn (tgt := 50) (off := 49) hx hb dX0_asKept_1 (by rw [he]; decide) (by rw [he]; decide) (by rw [he]; rfl) (by decide) ?_
    refine lv_lload_n hx hb dX0_asKept_50 rfl (lv_at hl 1 rfl) ?_
    refine lv_lconst (v := (0 : Int64)) hx hb dX0_asKept_51 (by decide) ?_
    refine W.lcmp hx hb dX0_asKept_52 ?_
    refine lv_if_eq (tgt := 60) hx hb dX0_asKept_53 (by decide) (fun c6 => ?_) (fun c6 => ?_)
    · have hm := it_t c6 hm
      refine lv_lconst (v := (0 : Int64)) hx hb dX0_asKept_60 (by decide) ?_
      exact B_61 _ _ _ _ hm hP hD hS (lv_sub hl [] rfl)
    · have hm := it_f c6 hm
      refine lv_lconst (v := (1 : Int64)) hx hb dX0_asKept_56 (by decide) ?_
      refine lv_goto (tgt := 61) hx hb dX0_asKept_57 (by decide) ?_
      exact B_61 _ _ _ _ hm hP hD hS (lv_sub hl [] rfl)
  have hm := it_f c5 hm
  have ho : (l0).toInt < 0 ∨ 4 < (l0).toInt := by
    refine Classical.byContradiction fun hh => ?_
    have h1 : 0 ≤ (l0).toInt ∧ (l0).toInt ≤ 4 := by omega
    have h2 : (l0).toInt = 0 ∨ (l0).toInt = 1 ∨ (l0).toInt = 2 ∨ (l0).toInt = 3 ∨ (l0).toInt = 4 := by omega
    rcases h2 with h2 | h2 | h2 | h2 | h2
    · exact c1 (Int32.toInt_inj.mp (h2.trans (by decide)))
    · exact c2 (Int32.toInt_inj.mp (h2.trans (by decide)))
    · exact c3 (Int32.toInt_inj.mp (h2.trans (by decide)))
    · exact c4 (Int32.toInt_inj.mp (h2.trans (by decide)))
    · exact c5 (Int32.toInt_inj.mp (h2.trans (by decide)))
  refine lv_tableOut (tgt := 62) hx hb dX0_asKept_1 ho (by decide) ?_
  refine lv_lload_n hx hb dX0_asKept_62 rfl (lv_at hl 1 rfl) ?_
  rw [hQ]
  exact W.lret (v := l1) hx hb hr (fun t9 ht hW => ⟨⟨l1, (), rfl, (Option.some.inj hm), by rw [ht]; exact hP, va_K.moved hW.alike hK, hD⟩, hS.F ht⟩) hS.2.2 dX0_asKept_63
def b_X0_putElement_30 (fu : Nat) (t_holding : Nat → Int32) (t_sizes : Nat → Int32) (t_elements : Nat → Int64) : Option ((Nat → Int64)) :=
  some t_elements
def m_X0_putElement (fu : Nat) (t_holding : Nat → Int32) (t_sizes : Nat → Int32) (t_elements : Nat → Int64) (l1 : Int32) (l2 : Int32) (l3 : Int64) : Option ((Nat → Int64)) :=
  (m_X0_hasPlaces fu t_sizes l1 l2 (1 : Int32)).bind fun o1 =>
  (if o1.1 = 0 then
    b_X0_putElement_30 fu t_holding t_sizes t_elements
  else
    (m_X0_holdingOf fu t_holding l1).bind fun o4 =>
    (m_X0_asKept fu o4.1 l3).bind fun o6 =>
    gd (inb ((l1 * (40 : Int32)) + l2) 320) (
    b_X0_putElement_30 fu t_holding t_sizes (vp_updL t_elements ((l1 * (40 : Int32)) + l2).toNatClampNeg o6.1)))
abbrev rm_X0_putElement : Room := ({ frames := 3, cells := 0, slots := 0, locals := 65 } : Room)
abbrev w0_X0_putElement (cA : Nat → ClassId) (a0 : Nat) (a1 : Nat) (a2 : Nat) (a3 : Nat) (t_holding : Nat → Int32) (t_sizes : Nat → Int32) (t_elements : Nat → Int64) : va_W := [(a0, e_X0 a1 a2 a3), (a1, eI cA 8 t_holding), (a2, eI cA 8 t_sizes), (a3, eJ cA 320 t_elements)]
abbrev w1_X0_putElement (cA : Nat → ClassId) (a0 : Nat) (a1 : Nat) (a2 : Nat) (a3 : Nat) (t_holding : Nat → Int32) (t_sizes : Nat → Int32) (u : (Nat → Int64)) : va_W := [(a0, e_X0 a1 a2 a3), (a1, eI cA 8 t_holding), (a2, eI cA 8 t_sizes), (a3, eJ cA 320 u)]
theorem hd_X0_putElement : yX0_putElement.cls = RX0 ∧ yX0_putElement.cls ≠ "java/lang/invoke/MethodHandle" ∧ yX0_putElement.cls ≠ "java/lang/invoke/VarHandle" ∧ (parseMethodDescriptor yX0_putElement.desc).map (fun d => d.parameters.length) = some 3 := by decide +kernel
set_option maxHeartbeats 40000000 in
set_option maxRecDepth 100000 in
theorem c_X0_putElement (l : Launch) (D : va_G) (cA : Nat → ClassId) (sz : Nat) (fu : Nat) (a0 : Nat) (a1 : Nat) (a2 : Nat) (a3 : Nat) (t_holding : Nat → Int32) (t_sizes : Nat → Int32) (t_elements : Nat → Int64) (l1 : Int32) (l2 : Int32) (l3 : Int64) (out : (Nat → Int64)) (hm : m_X0_putElement fu t_holding t_sizes t_elements l1 l2 l3 = some out) : MV l yX0_putElement (wU yX0_putElement cX0_putElement 5 ((Option.none : Option Jvm.ClassFile.FieldType))) rm_X0_putElement D cA sz [.ref a0, .int l1, .int l2, .long l3] (w0_X0_putElement cA a0 a1 a2 a3 t_holding t_sizes t_elements) out (w1_X0_putElement cA a0 a1 a2 a3 t_holding t_sizes) := by
  refine Met.ofW (cc := cX0_putElement) (maxL := 5) (ret := (Option.none : Option Jvm.ClassFile.FieldType)) (by decide) rfl ?_
  intro p e s m args below meth c s₁ B hml hv
  obtain ⟨hargs, hsz, hP, hK, hD0, hN⟩ := hv
  have hx := B.exec
  have hb := B.bytes
  have hr := B.returns
  have htg : ∀ w ∈ gw, w.before args s = true := fun w h => atoms_spec (ws := wU yX0_putElement cX0_putElement 5 ((Option.none : Option Jvm.ClassFile.FieldType))) B.pre w (List.mem_cons_of_mem _ h)
  have hown : s.vm.findClass RX0 = some m.cls := findClass_of_methodNamed B.named
  have hlocks := B.notSynchronized
  subst hsz
  have hD := hD0.self (sz := s.heap.size)
  have hA : ∀ q : Nat, s.heap.size ≤ q → va_A (w0_X0_putElement cA a0 a1 a2 a3 t_holding t_sizes t_elements) s.heap.size q := fun q h => Or.inr h
  have hS : va_S (va_A (w0_X0_putElement cA a0 a1 a2 a3 t_holding t_sizes t_elements) s.heap.size) s.heap s.heap [] := va_S.rf
  generalize va_A (w0_X0_putElement cA a0 a1 a2 a3 t_holding t_sizes t_elements) s.heap.size = A at hA hD hS ⊢
  obtain ⟨Q, hQ⟩ : ∃ Q : State → Prop, Q = MQ below (va_Qv (fun (u : (Nat → Int64)) => u = out) (pst0 D cA A (w1_X0_putElement cA a0 a1 a2 a3 t_holding t_sizes)) A) args s 0 0 A := ⟨_, rfl⟩
  refine (?_ : W p l e rm_X0_putElement s m args below meth c s.heap [] 0 0 (MQ below (va_Qv (fun (u : (Nat → Int64)) => u = out) (pst0 D cA A (w1_X0_putElement cA a0 a1 a2 a3 t_holding t_sizes)) A) args s 0 0 A) (entryFrame m args 5))
  rw [← hQ]
  have hP : va_P D CL [(a0, e_X0 a1 a2 a3), (a1, eI cA 8 t_holding), (a2, eI cA 8 t_sizes), (a3, eJ cA 320 t_elements)] s.heap := hP
  have hD : va_D A [(a0, e_X0 a1 a2 a3), (a1, eI cA 8 t_holding), (a2, eI cA 8 t_sizes), (a3, eJ cA 320 t_elements)] := hD
  have B_30 : ∀ (t_elements : Nat → Int64) (H : Heap) (locs : List Loc) (ls : Array Slot), b_X0_putElement_30 fu t_holding t_sizes t_elements = some out → va_P D CL [(a0, e_X0 a1 a2 a3), (a1, eI cA 8 t_holding), (a2, eI cA 8 t_sizes), (a3, eJ cA 320 t_elements)] H → va_D A [(a0, e_X0 a1 a2 a3), (a1, eI cA 8 t_holding), (a2, eI cA 8 t_sizes), (a3, eJ cA 320 t_elements)] → va_S A s.heap H locs → lv_has ls 5 [(0, .ref a0)] → W p l e rm_X0_putElement s m args below meth c H locs 0 0 Q (F0 m 30 ls []) := by
    intro  t_elements H locs ls hm hP hD hS hl
    unfold b_X0_putElement_30 at hm
    rw [hQ]
    exact W.vret hx hb hr (fun t9 ht hW => ⟨⟨t_elements, rfl, (Option.some.inj hm), by rw [ht]; exact hP, va_K.moved hW.alike hK, hD⟩, hS.F ht⟩) hS.2.2 dX0_putElement_30
  unfold m_X0_putElement at hm
  subst hargs
  have hl := lv_entry ([.ref a0, .int l1, .int l2, .long l3]) (n := 5) (Nat.le_of_ble_eq_true rfl)
  rw [lg_entry_eq]
  generalize (lg_sl ([.ref a0, .int l1, .int l2, .long l3]) ++ List.replicate (5 - (lg_sl ([.ref a0, .int l1, .int l2, .long l3])).length) Slot.unset).toArray = ls at hl ⊢
  have hl : lv_has ls 5 [(0, .ref a0), (1, .int l1), (2, .int l2), (3, .long l3)] := hl
  refine lv_aload_n hx hb dX0_putElement_0 rfl (lv_at hl 0 rfl) ?_
  refine lv_iload_n hx hb dX0_putElement_1 rfl (lv_at hl 1 rfl) ?_
  refine lv_iload_n hx hb dX0_putElement_2 rfl (lv_at hl 2 rfl) ?_
  refine lv_iconst (v := (1 : Int32)) hx hb dX0_putElement_3 (by decide) ?_
  obtain ⟨o1, ho2, hm⟩ := bd_s hm
  refine xr_i (wr := [(a1, eI cA 8 t_holding), (a3, eJ cA 320 t_elements)]) (wn := [(a0, e_X0 a1 a2 a3), (a1, eI cA 8 t_holding), (a2, eI cA 8 t_sizes), (a3, eJ cA 320 t_elements)]) (va_runV (As := [.int l1, .int l2, .int (1 : Int32)]) (rest := []) ⟨hx, hb, hml, hown, htg⟩ (c_X0_hasPlaces l D cA _ fu a0 a1 a2 a3 t_sizes l1 l2 (1 : Int32) o1 ho2) (cwV 3 htg (gV q_2_50 q_2_44 q_p1_5 q_1_3 q_2_45) rfl rfl rfl hd_X0_hasPlaces ⟨Nat.le_of_ble_eq_true rfl, Nat.le_of_ble_eq_true rfl⟩) (xpV hN hK hP hD [0, 2] rfl (by decide) rfl rfl) rfl rfl hl.1 rfl (lv_room (Nat.le_of_ble_eq_true rfl)) dX0_putElement_4 ⟨Nat.zero_le _, Nat.zero_le _⟩) hP hD hS hA [0, 2] [1, 3] [2, 0, 3, 1] rfl rfl (by decide) (by decide) rfl (by decide) (fun H locs hP hD hS => ?_)
  refine lv_if_eq (tgt := 30) hx hb dX0_putElement_7 (by decide) (fun c3 => ?_) (fun c3 => ?_)
  · have hm := it_t c3 hm
    exact B_30 _ _ _ _ hm hP hD hS (lv_sub hl [0] rfl)
  · have hm := it_f c3 hm
    refine lv_aload_n hx hb dX0_putElement_10 rfl (lv_at hl 0 rfl) ?_
    refine va_get (D := D) (ci := 0) (v := .ref a3) (C := RX0) (T := TX0) (N := 3) hx hb htg inX0 hown hK hP 0 rfl rfl 2 (by decide) (htg _ q_1_100) (fun _ h9 => h9) rfl dX0_putElement_11 ?_
    refine lv_iload_n hx hb dX0_putElement_14 rfl (lv_at hl 1 rfl) ?_
    refine lv_bipush (v := (40 : Int32)) hx hb dX0_putElement_15 (by decide) ?_
    refine lv_imul hx hb dX0_putElement_17 ?_
    refine lv_iload_n hx hb dX0_putElement_18 rfl (lv_at hl 2 rfl) ?_
    refine lv_iadd hx hb dX0_putElement_19 ?_
    refine lv_aload_n hx hb dX0_putElement_20 rfl (lv_at hl 0 rfl) ?_
    refine lv_iload_n hx hb dX0_putElement_21 rfl (lv_at hl 1 rfl) ?_
    obtain ⟨o4, ho5, hm⟩ := bd_s hm
    refine xr_i (wr := [(a2, eI cA 8 t_sizes), (a3, eJ cA 320 t_elements)]) (wn := [(a0, e_X0 a1 a2 a3), (a1, eI cA 8 t_holding), (a2, eI cA 8 t_sizes), (a3, eJ cA 320 t_elements)]) (va_runV (As := [.int l1]) (rest := [.int ((l1 * (40 : Int32)) + l2), .ref a3]) ⟨hx, hb, hml, hown, htg⟩ (c_X0_holdingOf l D cA _ fu a0 a1 a2 a3 t_holding l1 o4 ho5) (cwV 1 htg (gV q_2_34 q_2_36 q_p1_3 q_1_3 q_2_37) rfl rfl rfl hd_X0_holdingOf ⟨Nat.le_of_ble_eq_true rfl, Nat.le_of_ble_eq_true rfl⟩) (xpV hN hK hP hD [0, 1] rfl (by decide) rfl rfl) rfl rfl hl.1 rfl (lv_room (Nat.le_of_ble_eq_true rfl)) dX0_putElement_22 ⟨Nat.zero_le _, Nat.zero_le _⟩) hP hD hS hA [0, 1] [2, 3] [2, 3, 0, 1] rfl rfl (by decide) (by decide) rfl (by decide) (fun H locs hP hD hS => ?_)
    refine lv_lload_n hx hb dX0_putElement_25 rfl (lv_at hl 3 rfl) ?_
    obtain ⟨o6, ho7, hm⟩ := bd_s hm
    refine xr_l (wr := [(a0, e_X0 a1 a2 a3), (a1, eI cA 8 t_holding), (a2, eI cA 8 t_sizes), (a3, eJ cA 320 t_elements)]) (wn := [(a0, e_X0 a1 a2 a3), (a1, eI cA 8 t_holding), (a2, eI cA 8 t_sizes), (a3, eJ cA 320 t_elements)]) (va_runS (As := [.int o4.1, .long l3]) (rest := [.int ((l1 * (40 : Int32)) + l2), .ref a3]) ⟨hx, hb, hml, hown, htg⟩ (c_X0_asKept l D cA _ fu o4.1 l3 o6 ho7) (cwS 2 htg (gS q_2_51 q_2_52 q_1_3 q_2_53) rfl rfl rfl hd_X0_asKept ⟨Nat.le_of_ble_eq_true rfl, Nat.le_of_ble_eq_true rfl⟩) (xpS hN hK hP hD [] rfl (by decide)) rfl rfl hl.1 rfl (lv_room (Nat.le_of_ble_eq_true rfl)) dX0_putElement_26 ⟨Nat.zero_le _, Nat.zero_le _⟩) hP hD hS hA [] [0, 1, 2, 3] [0, 1, 2, 3] rfl rfl (by decide) (by decide) rfl (by decide) (fun H locs hP hD hS => ?_)
    obtain ⟨hi8, hm⟩ := gd_s hm
    refine va_last hx hb hK hP hD hS 3 1 rfl rfl hi8 dX0_putElement_29 (fun H locs (hP : va_P D CL [(a0, e_X0 a1 a2 a3), (a1, eI cA 8 t_holding), (a2, eI cA 8 t_sizes), (a3, eJ cA 320 (vp_updL t_elements ((l1 * (40 : Int32)) + l2).toNatClampNeg o6.1))] H) (hD : va_D A [(a0, e_X0 a1 a2 a3), (a1, eI cA 8 t_holding), (a2, eI cA 8 t_sizes), (a3, eJ cA 320 (vp_updL t_elements ((l1 * (40 : Int32)) + l2).toNatClampNeg o6.1))]) hS => ?_)
    exact B_30 _ _ _ _ hm hP hD hS (lv_sub hl [0] rfl)
def b_X0_haveTwoSorts_34 (fu : Nat) (t_holding : Nat → Int32) (s0 : Int32) : Option (Int32 × Unit) :=
  gd (bz s0) (some (s0, ()))
def b_X0_haveTwoSorts_33 (fu : Nat) (t_holding : Nat → Int32)  : Option (Int32 × Unit) :=
  b_X0_haveTwoSorts_34 fu t_holding (0 : Int32)
def m_X0_haveTwoSorts (fu : Nat) (t_holding : Nat → Int32) (l1 : Int32) (l2 : Int32) : Option (Int32 × Unit) :=
  (m_X0_isBare fu t_holding l1).bind fun o2 =>
  (if o2.1 = 0 then
    (m_X0_isBare fu t_holding l2).bind fun o5 =>
    (if o5.1 = 0 then
      (m_X0_holdingOf fu t_holding l1).bind fun o8 =>
      (m_X0_holdingOf fu t_holding l2).bind fun o10 =>
      (if o8.1 = o10.1 then
        b_X0_haveTwoSorts_33 fu t_holding 
      else
        b_X0_haveTwoSorts_34 fu t_holding (1 : Int32))
    else
      b_X0_haveTwoSorts_33 fu t_holding )
  else
    b_X0_haveTwoSorts_33 fu t_holding )
abbrev rm_X0_haveTwoSorts : Room := ({ frames := 4, cells := 0, slots := 0, locals := 84 } : Room)
abbrev w0_X0_haveTwoSorts (cA : Nat → ClassId) (a0 : Nat) (a1 : Nat) (a2 : Nat) (a3 : Nat) (t_holding : Nat → Int32) : va_W := [(a0, e_X0 a1 a2 a3), (a1, eI cA 8 t_holding)]
abbrev w1_X0_haveTwoSorts (cA : Nat → ClassId) (a0 : Nat) (a1 : Nat) (a2 : Nat) (a3 : Nat) (t_holding : Nat → Int32) (u : Unit) : va_W := [(a0, e_X0 a1 a2 a3), (a1, eI cA 8 t_holding)]
theorem hd_X0_haveTwoSorts : yX0_haveTwoSorts.cls = RX0 ∧ yX0_haveTwoSorts.cls ≠ "java/lang/invoke/MethodHandle" ∧ yX0_haveTwoSorts.cls ≠ "java/lang/invoke/VarHandle" ∧ (parseMethodDescriptor yX0_haveTwoSorts.desc).map (fun d => d.parameters.length) = some 2 := by decide +kernel
set_option maxHeartbeats 40000000 in
set_option maxRecDepth 100000 in
theorem c_X0_haveTwoSorts (l : Launch) (D : va_G) (cA : Nat → ClassId) (sz : Nat) (fu : Nat) (a0 : Nat) (a1 : Nat) (a2 : Nat) (a3 : Nat) (t_holding : Nat → Int32) (l1 : Int32) (l2 : Int32) (out : Int32 × Unit) (hm : m_X0_haveTwoSorts fu t_holding l1 l2 = some out) : MI l yX0_haveTwoSorts (wU yX0_haveTwoSorts cX0_haveTwoSorts 3 ((Option.some Jvm.ClassFile.FieldType.boolean))) rm_X0_haveTwoSorts D cA sz [.ref a0, .int l1, .int l2] (w0_X0_haveTwoSorts cA a0 a1 a2 a3 t_holding) out (w1_X0_haveTwoSorts cA a0 a1 a2 a3 t_holding) := by
  refine Met.ofW (cc := cX0_haveTwoSorts) (maxL := 3) (ret := (Option.some Jvm.ClassFile.FieldType.boolean)) (by decide) rfl ?_
  intro p e s m args below meth c s₁ B hml hv
  obtain ⟨hargs, hsz, hP, hK, hD0, hN⟩ := hv
  have hx := B.exec
  have hb := B.bytes
  have hr := B.returns
  have htg : ∀ w ∈ gw, w.before args s = true := fun w h => atoms_spec (ws := wU yX0_haveTwoSorts cX0_haveTwoSorts 3 ((Option.some Jvm.ClassFile.FieldType.boolean))) B.pre w (List.mem_cons_of_mem _ h)
  have hown : s.vm.findClass RX0 = some m.cls := findClass_of_methodNamed B.named
  have hlocks := B.notSynchronized
  subst hsz
  have hD := hD0.self (sz := s.heap.size)
  have hA : ∀ q : Nat, s.heap.size ≤ q → va_A (w0_X0_haveTwoSorts cA a0 a1 a2 a3 t_holding) s.heap.size q := fun q h => Or.inr h
  have hS : va_S (va_A (w0_X0_haveTwoSorts cA a0 a1 a2 a3 t_holding) s.heap.size) s.heap s.heap [] := va_S.rf
  generalize va_A (w0_X0_haveTwoSorts cA a0 a1 a2 a3 t_holding) s.heap.size = A at hA hD hS ⊢
  obtain ⟨Q, hQ⟩ : ∃ Q : State → Prop, Q = MQ below (va_Qi (fun (r : Int32) (u : Unit) => (r, u) = out) (pst0 D cA A (w1_X0_haveTwoSorts cA a0 a1 a2 a3 t_holding)) A) args s 0 0 A := ⟨_, rfl⟩
  refine (?_ : W p l e rm_X0_haveTwoSorts s m args below meth c s.heap [] 0 0 (MQ below (va_Qi (fun (r : Int32) (u : Unit) => (r, u) = out) (pst0 D cA A (w1_X0_haveTwoSorts cA a0 a1 a2 a3 t_holding)) A) args s 0 0 A) (entryFrame m args 3))
  rw [← hQ]
  have hP : va_P D CL [(a0, e_X0 a1 a2 a3), (a1, eI cA 8 t_holding)] s.heap := hP
  have hD : va_D A [(a0, e_X0 a1 a2 a3), (a1, eI cA 8 t_holding)] := hD
  have B_34 : ∀ (s0 : Int32) (H : Heap) (locs : List Loc) (ls : Array Slot), b_X0_haveTwoSorts_34 fu t_holding s0 = some out → va_P D CL [(a0, e_X0 a1 a2 a3), (a1, eI cA 8 t_holding)] H → va_D A [(a0, e_X0 a1 a2 a3), (a1, eI cA 8 t_holding)] → va_S A s.heap H locs → lv_has ls 3 [(0, .ref a0)] → W p l e rm_X0_haveTwoSorts s m args below meth c H locs 0 0 Q (F0 m 34 ls [.int s0]) := by
    intro  s0 H locs ls hm hP hD hS hl
    unfold b_X0_haveTwoSorts_34 at hm
    obtain ⟨hz1, hm⟩ := gd_s hm
    rw [hQ]
    exact W.zret (v := s0) hx hb hr (bz_nr hz1) (fun t9 ht hW => ⟨⟨s0, (), rfl, (Option.some.inj hm), by rw [ht]; exact hP, va_K.moved hW.alike hK, hD⟩, hS.F ht⟩) hS.2.2 dX0_haveTwoSorts_34
  have B_33 : ∀  (H : Heap) (locs : List Loc) (ls : Array Slot), b_X0_haveTwoSorts_33 fu t_holding  = some out → va_P D CL [(a0, e_X0 a1 a2 a3), (a1, eI cA 8 t_holding)] H → va_D A [(a0, e_X0 a1 a2 a3), (a1, eI cA 8 t_holding)] → va_S A s.heap H locs → lv_has ls 3 [(0, .ref a0)] → W p l e rm_X0_haveTwoSorts s m args below meth c H locs 0 0 Q (F0 m 33 ls []) := by
    intro   H locs ls hm hP hD hS hl
    unfold b_X0_haveTwoSorts_33 at hm
    refine lv_iconst (v := (0 : Int32)) hx hb dX0_haveTwoSorts_33 (by decide) ?_
    exact B_34 _ _ _ _ hm hP hD hS (lv_sub hl [0] rfl)
  unfold m_X0_haveTwoSorts at hm
  subst hargs
  have hl := lv_entry ([.ref a0, .int l1, .int l2]) (n := 3) (Nat.le_of_ble_eq_true rfl)
  rw [lg_entry_eq]
  generalize (lg_sl ([.ref a0, .int l1, .int l2]) ++ List.replicate (3 - (lg_sl ([.ref a0, .int l1, .int l2])).length) Slot.unset).toArray = ls at hl ⊢
  have hl : lv_has ls 3 [(0, .ref a0), (1, .int l1), (2, .int l2)] := hl
  refine lv_aload_n hx hb dX0_haveTwoSorts_0 rfl (lv_at hl 0 rfl) ?_
  refine lv_iload_n hx hb dX0_haveTwoSorts_1 rfl (lv_at hl 1 rfl) ?_
  obtain ⟨o2, ho3, hm⟩ := bd_s hm
  refine xr_i (wr := []) (wn := [(a0, e_X0 a1 a2 a3), (a1, eI cA 8 t_holding)]) (va_runV (As := [.int l1]) (rest := []) ⟨hx, hb, hml, hown, htg⟩ (c_X0_isBare l D cA _ fu a0 a1 a2 a3 t_holding l1 o2 ho3) (cwV 1 htg (gV q_2_62 q_2_40 q_p1_4 q_1_3 q_2_41) rfl rfl rfl hd_X0_isBare ⟨Nat.le_of_ble_eq_true rfl, Nat.le_of_ble_eq_true rfl⟩) (xpV hN hK hP hD [0, 1] rfl (by decide) rfl rfl) rfl rfl hl.1 rfl (lv_room (Nat.le_of_ble_eq_true rfl)) dX0_haveTwoSorts_2 ⟨Nat.zero_le _, Nat.zero_le _⟩) hP hD hS hA [0, 1] [] [0, 1] rfl rfl (by decide) (by decide) rfl (by decide) (fun H locs hP hD hS => ?_)
  refine lv_if_ne (tgt := 33) hx hb dX0_haveTwoSorts_5 (by decide) (fun c4 => ?_) (fun c4 => ?_)
  · have hm := it_f c4 hm
    exact B_33  _ _ _ hm hP hD hS (lv_sub hl [0] rfl)
  · have hm := it_t c4 hm
    refine lv_aload_n hx hb dX0_haveTwoSorts_8 rfl (lv_at hl 0 rfl) ?_
    refine lv_iload_n hx hb dX0_haveTwoSorts_9 rfl (lv_at hl 2 rfl) ?_
    obtain ⟨o5, ho6, hm⟩ := bd_s hm
    refine xr_i (wr := []) (wn := [(a0, e_X0 a1 a2 a3), (a1, eI cA 8 t_holding)]) (va_runV (As := [.int l2]) (rest := []) ⟨hx, hb, hml, hown, htg⟩ (c_X0_isBare l D cA _ fu a0 a1 a2 a3 t_holding l2 o5 ho6) (cwV 1 htg (gV q_2_62 q_2_40 q_p1_4 q_1_3 q_2_41) rfl rfl rfl hd_X0_isBare ⟨Nat.le_of_ble_eq_true rfl, Nat.le_of_ble_eq_true rfl⟩) (xpV hN hK hP hD [0, 1] rfl (by decide) rfl rfl) rfl rfl hl.1 rfl (lv_room (Nat.le_of_ble_eq_true rfl)) dX0_haveTwoSorts_10 ⟨Nat.zero_le _, Nat.zero_le _⟩) hP hD hS hA [0, 1] [] [0, 1] rfl rfl (by decide) (by decide) rfl (by decide) (fun H locs hP hD hS => ?_)
    refine lv_if_ne (tgt := 33) hx hb dX0_haveTwoSorts_13 (by decide) (fun c7 => ?_) (fun c7 => ?_)
    · have hm := it_f c7 hm
      exact B_33  _ _ _ hm hP hD hS (lv_sub hl [0] rfl)
    · have hm := it_t c7 hm
      refine lv_aload_n hx hb dX0_haveTwoSorts_16 rfl (lv_at hl 0 rfl) ?_
      refine lv_iload_n hx hb dX0_haveTwoSorts_17 rfl (lv_at hl 1 rfl) ?_
      obtain ⟨o8, ho9, hm⟩ := bd_s hm
      refine xr_i (wr := []) (wn := [(a0, e_X0 a1 a2 a3), (a1, eI cA 8 t_holding)]) (va_runV (As := [.int l1]) (rest := []) ⟨hx, hb, hml, hown, htg⟩ (c_X0_holdingOf l D cA _ fu a0 a1 a2 a3 t_holding l1 o8 ho9) (cwV 1 htg (gV q_2_34 q_2_36 q_p1_3 q_1_3 q_2_37) rfl rfl rfl hd_X0_holdingOf ⟨Nat.le_of_ble_eq_true rfl, Nat.le_of_ble_eq_true rfl⟩) (xpV hN hK hP hD [0, 1] rfl (by decide) rfl rfl) rfl rfl hl.1 rfl (lv_room (Nat.le_of_ble_eq_true rfl)) dX0_haveTwoSorts_18 ⟨Nat.zero_le _, Nat.zero_le _⟩) hP hD hS hA [0, 1] [] [0, 1] rfl rfl (by decide) (by decide) rfl (by decide) (fun H locs hP hD hS => ?_)
      refine lv_aload_n hx hb dX0_haveTwoSorts_21 rfl (lv_at hl 0 rfl) ?_
      refine lv_iload_n hx hb dX0_haveTwoSorts_22 rfl (lv_at hl 2 rfl) ?_
      obtain ⟨o10, ho11, hm⟩ := bd_s hm
      refine xr_i (wr := []) (wn := [(a0, e_X0 a1 a2 a3), (a1, eI cA 8 t_holding)]) (va_runV (As := [.int l2]) (rest := [.int o8.1]) ⟨hx, hb, hml, hown, htg⟩ (c_X0_holdingOf l D cA _ fu a0 a1 a2 a3 t_holding l2 o10 ho11) (cwV 1 htg (gV q_2_34 q_2_36 q_p1_3 q_1_3 q_2_37) rfl rfl rfl hd_X0_holdingOf ⟨Nat.le_of_ble_eq_true rfl, Nat.le_of_ble_eq_true rfl⟩) (xpV hN hK hP hD [0, 1] rfl (by decide) rfl rfl) rfl rfl hl.1 rfl (lv_room (Nat.le_of_ble_eq_true rfl)) dX0_haveTwoSorts_23 ⟨Nat.zero_le _, Nat.zero_le _⟩) hP hD hS hA [0, 1] [] [0, 1] rfl rfl (by decide) (by decide) rfl (by decide) (fun H locs hP hD hS => ?_)
      refine lv_icmp_eq (tgt := 33) hx hb dX0_haveTwoSorts_26 (by decide) (fun c12 => ?_) (fun c12 => ?_)
      · have hm := it_t c12 hm
        exact B_33  _ _ _ hm hP hD hS (lv_sub hl [0] rfl)
      · have hm := it_f c12 hm
        refine lv_iconst (v := (1 : Int32)) hx hb dX0_haveTwoSorts_29 (by decide) ?_
        refine lv_goto (tgt := 34) hx hb dX0_haveTwoSorts_30 (by decide) ?_
        exact B_34 _ _ _ _ hm hP hD hS (lv_sub hl [0] rfl)
def b_X0_copyElements_49 (fu : Nat) (t_sizes : Nat → Int32) (t_elements : Nat → Int64) : Option ((Nat → Int64)) :=
  some t_elements
def m_X0_copyElements (fu : Nat) (t_sizes : Nat → Int32) (t_elements : Nat → Int64) (l1 : Int32) (l2 : Int32) (l3 : Int32) (l4 : Int32) (l5 : Int32) : Option ((Nat → Int64)) :=
  (m_X0_hasPlaces fu t_sizes l1 l3 l5).bind fun o1 =>
  (if o1.1 = 0 then
    b_X0_copyElements_49 fu t_sizes t_elements
  else
    (m_X0_hasPlaces fu t_sizes l2 l4 l5).bind fun o4 =>
    (if o4.1 = 0 then
      b_X0_copyElements_49 fu t_sizes t_elements
    else
      gd (¬ ((l1 * (40 : Int32)) + l3) < 0 ∧ ¬ ((l2 * (40 : Int32)) + l4) < 0 ∧ ¬ l5 < 0 ∧ ((l1 * (40 : Int32)) + l3).toNatClampNeg + l5.toNatClampNeg ≤ 320 ∧ ((l2 * (40 : Int32)) + l4).toNatClampNeg + l5.toNatClampNeg ≤ 320) (
      b_X0_copyElements_49 fu t_sizes (va_cpy t_elements t_elements ((l1 * (40 : Int32)) + l3).toNatClampNeg ((l2 * (40 : Int32)) + l4).toNatClampNeg l5.toNatClampNeg))))
abbrev rm_X0_copyElements : Room := ({ frames := 3, cells := 0, slots := 0, locals := 65 } : Room)
abbrev w0_X0_copyElements (cA : Nat → ClassId) (a0 : Nat) (a1 : Nat) (a2 : Nat) (a3 : Nat) (t_sizes : Nat → Int32) (t_elements : Nat → Int64) : va_W := [(a0, e_X0 a1 a2 a3), (a2, eI cA 8 t_sizes), (a3, eJ cA 320 t_elements)]
abbrev w1_X0_copyElements (cA : Nat → ClassId) (a0 : Nat) (a1 : Nat) (a2 : Nat) (a3 : Nat) (t_sizes : Nat → Int32) (u : (Nat → Int64)) : va_W := [(a0, e_X0 a1 a2 a3), (a2, eI cA 8 t_sizes), (a3, eJ cA 320 u)]
theorem hd_X0_copyElements : yX0_copyElements.cls = RX0 ∧ yX0_copyElements.cls ≠ "java/lang/invoke/MethodHandle" ∧ yX0_copyElements.cls ≠ "java/lang/invoke/VarHandle" ∧ (parseMethodDescriptor yX0_copyElements.desc).map (fun d => d.parameters.length) = some 5 := by decide +kernel
set_option maxHeartbeats 40000000 in
set_option maxRecDepth 100000 in
theorem c_X0_copyElements (l : Launch) (D : va_G) (cA : Nat → ClassId) (sz : Nat) (fu : Nat) (a0 : Nat) (a1 : Nat) (a2 : Nat) (a3 : Nat) (t_sizes : Nat → Int32) (t_elements : Nat → Int64) (l1 : Int32) (l2 : Int32) (l3 : Int32) (l4 : Int32) (l5 : Int32) (out : (Nat → Int64)) (hm : m_X0_copyElements fu t_sizes t_elements l1 l2 l3 l4 l5 = some out) : MV l yX0_copyElements (wU yX0_copyElements cX0_copyElements 6 ((Option.none : Option Jvm.ClassFile.FieldType))) rm_X0_copyElements D cA sz [.ref a0, .int l1, .int l2, .int l3, .int l4, .int l5] (w0_X0_copyElements cA a0 a1 a2 a3 t_sizes t_elements) out (w1_X0_copyElements cA a0 a1 a2 a3 t_sizes) := by
  refine Met.ofW (cc := cX0_copyElements) (maxL := 6) (ret := (Option.none : Option Jvm.ClassFile.FieldType)) (by decide) rfl ?_
  intro p e s m args below meth c s₁ B hml hv
  obtain ⟨hargs, hsz, hP, hK, hD0, hN⟩ := hv
  have hx := B.exec
  have hb := B.bytes
  have hr := B.returns
  have htg : ∀ w ∈ gw, w.before args s = true := fun w h => atoms_spec (ws := wU yX0_copyElements cX0_copyElements 6 ((Option.none : Option Jvm.ClassFile.FieldType))) B.pre w (List.mem_cons_of_mem _ h)
  have hown : s.vm.findClass RX0 = some m.cls := findClass_of_methodNamed B.named
  have hlocks := B.notSynchronized
  subst hsz
  have hD := hD0.self (sz := s.heap.size)
  have hA : ∀ q : Nat, s.heap.size ≤ q → va_A (w0_X0_copyElements cA a0 a1 a2 a3 t_sizes t_elements) s.heap.size q := fun q h => Or.inr h
  have hS : va_S (va_A (w0_X0_copyElements cA a0 a1 a2 a3 t_sizes t_elements) s.heap.size) s.heap s.heap [] := va_S.rf
  generalize va_A (w0_X0_copyElements cA a0 a1 a2 a3 t_sizes t_elements) s.heap.size = A at hA hD hS ⊢
  obtain ⟨Q, hQ⟩ : ∃ Q : State → Prop, Q = MQ below (va_Qv (fun (u : (Nat → Int64)) => u = out) (pst0 D cA A (w1_X0_copyElements cA a0 a1 a2 a3 t_sizes)) A) args s 0 0 A := ⟨_, rfl⟩
  refine (?_ : W p l e rm_X0_copyElements s m args below meth c s.heap [] 0 0 (MQ below (va_Qv (fun (u : (Nat → Int64)) => u = out) (pst0 D cA A (w1_X0_copyElements cA a0 a1 a2 a3 t_sizes)) A) args s 0 0 A) (entryFrame m args 6))
  rw [← hQ]
  have hP : va_P D CL [(a0, e_X0 a1 a2 a3), (a2, eI cA 8 t_sizes), (a3, eJ cA 320 t_elements)] s.heap := hP
  have hD : va_D A [(a0, e_X0 a1 a2 a3), (a2, eI cA 8 t_sizes), (a3, eJ cA 320 t_elements)] := hD
  have B_49 : ∀ (t_elements : Nat → Int64) (H : Heap) (locs : List Loc) (ls : Array Slot), b_X0_copyElements_49 fu t_sizes t_elements = some out → va_P D CL [(a0, e_X0 a1 a2 a3), (a2, eI cA 8 t_sizes), (a3, eJ cA 320 t_elements)] H → va_D A [(a0, e_X0 a1 a2 a3), (a2, eI cA 8 t_sizes), (a3, eJ cA 320 t_elements)] → va_S A s.heap H locs → lv_has ls 6 [(0, .ref a0)] → W p l e rm_X0_copyElements s m args below meth c H locs 0 0 Q (F0 m 49 ls []) := by
    intro  t_elements H locs ls hm hP hD hS hl
    unfold b_X0_copyElements_49 at hm
    rw [hQ]
    exact W.vret hx hb hr (fun t9 ht hW => ⟨⟨t_elements, rfl, (Option.some.inj hm), by rw [ht]; exact hP, va_K.moved hW.alike hK, hD⟩, hS.F ht⟩) hS.2.2 dX0_copyElements_49
  unfold m_X0_copyElements at hm
  subst hargs
  have hl := lv_entry ([.ref a0, .int l1, .int l2, .int l3, .int l4, .int l5]) (n := 6) (Nat.le_of_ble_eq_true rfl)
  rw [lg_entry_eq]
  generalize (lg_sl ([.ref a0, .int l1, .int l2, .int l3, .int l4, .int l5]) ++ List.replicate (6 - (lg_sl ([.ref a0, .int l1, .int l2, .int l3, .int l4, .int l5])).length) Slot.unset).toArray = ls at hl ⊢
  have hl : lv_has ls 6 [(0, .ref a0), (1, .int l1), (2, .int l2), (3, .int l3), (4, .int l4), (5, .int l5)] := hl
  refine lv_aload_n hx hb dX0_copyElements_0 rfl (lv_at hl 0 rfl) ?_
  refine lv_iload_n hx hb dX0_copyElements_1 rfl (lv_at hl 1 rfl) ?_
  refine lv_iload_n hx hb dX0_copyElements_2 rfl (lv_at hl 3 rfl) ?_
  refine lv_iload hx hb dX0_copyElements_3 (lv_at hl 5 rfl) ?_
  obtain ⟨o1, ho2, hm⟩ := bd_s hm
  refine xr_i (wr := [(a3, eJ cA 320 t_elements)]) (wn := [(a0, e_X0 a1 a2 a3), (a2, eI cA 8 t_sizes), (a3, eJ cA 320 t_elements)]) (va_runV (As := [.int l1, .int l3, .int l5]) (rest := []) ⟨hx, hb, hml, hown, htg⟩ (c_X0_hasPlaces l D cA _ fu a0 a1 a2 a3 t_sizes l1 l3 l5 o1 ho2) (cwV 3 htg (gV q_2_50 q_2_44 q_p1_5 q_1_3 q_2_45) rfl rfl rfl hd_X0_hasPlaces ⟨Nat.le_of_ble_eq_true rfl, Nat.le_of_ble_eq_true rfl⟩) (xpV hN hK hP hD [0, 1] rfl (by decide) rfl rfl) rfl rfl hl.1 rfl (lv_room (Nat.le_of_ble_eq_true rfl)) dX0_copyElements_5 ⟨Nat.zero_le _, Nat.zero_le _⟩) hP hD hS hA [0, 1] [2] [1, 2, 0] rfl rfl (by decide) (by decide) rfl (by decide) (fun H locs hP hD hS => ?_)
  refine lv_if_eq (tgt := 49) hx hb dX0_copyElements_8 (by decide) (fun c3 => ?_) (fun c3 => ?_)
  · have hm := it_t c3 hm
    exact B_49 _ _ _ _ hm hP hD hS (lv_sub hl [0] rfl)
  · have hm := it_f c3 hm
    refine lv_aload_n hx hb dX0_copyElements_11 rfl (lv_at hl 0 rfl) ?_
    refine lv_iload_n hx hb dX0_copyElements_12 rfl (lv_at hl 2 rfl) ?_
    refine lv_iload hx hb dX0_copyElements_13 (lv_at hl 4 rfl) ?_
    refine lv_iload hx hb dX0_copyElements_15 (lv_at hl 5 rfl) ?_
    obtain ⟨o4, ho5, hm⟩ := bd_s hm
    refine xr_i (wr := [(a3, eJ cA 320 t_elements)]) (wn := [(a0, e_X0 a1 a2 a3), (a2, eI cA 8 t_sizes), (a3, eJ cA 320 t_elements)]) (va_runV (As := [.int l2, .int l4, .int l5]) (rest := []) ⟨hx, hb, hml, hown, htg⟩ (c_X0_hasPlaces l D cA _ fu a0 a1 a2 a3 t_sizes l2 l4 l5 o4 ho5) (cwV 3 htg (gV q_2_50 q_2_44 q_p1_5 q_1_3 q_2_45) rfl rfl rfl hd_X0_hasPlaces ⟨Nat.le_of_ble_eq_true rfl, Nat.le_of_ble_eq_true rfl⟩) (xpV hN hK hP hD [0, 1] rfl (by decide) rfl rfl) rfl rfl hl.1 rfl (lv_room (Nat.le_of_ble_eq_true rfl)) dX0_copyElements_17 ⟨Nat.zero_le _, Nat.zero_le _⟩) hP hD hS hA [0, 1] [2] [1, 2, 0] rfl rfl (by decide) (by decide) rfl (by decide) (fun H locs hP hD hS => ?_)
    refine lv_if_eq (tgt := 49) hx hb dX0_copyElements_20 (by decide) (fun c6 => ?_) (fun c6 => ?_)
    · have hm := it_t c6 hm
      exact B_49 _ _ _ _ hm hP hD hS (lv_sub hl [0] rfl)
    · have hm := it_f c6 hm
      refine lv_aload_n hx hb dX0_copyElements_23 rfl (lv_at hl 0 rfl) ?_
      refine va_get (D := D) (ci := 0) (v := .ref a3) (C := RX0) (T := TX0) (N := 3) hx hb htg inX0 hown hK hP 0 rfl rfl 2 (by decide) (htg _ q_1_100) (fun _ h9 => h9) rfl dX0_copyElements_24 ?_
      refine lv_iload_n hx hb dX0_copyElements_27 rfl (lv_at hl 1 rfl) ?_
      refine lv_bipush (v := (40 : Int32)) hx hb dX0_copyElements_28 (by decide) ?_
      refine lv_imul hx hb dX0_copyElements_30 ?_
      refine lv_iload_n hx hb dX0_copyElements_31 rfl (lv_at hl 3 rfl) ?_
      refine lv_iadd hx hb dX0_copyElements_32 ?_
      refine lv_aload_n hx hb dX0_copyElements_33 rfl (lv_at hl 0 rfl) ?_
      refine va_get (D := D) (ci := 0) (v := .ref a3) (C := RX0) (T := TX0) (N := 3) hx hb htg inX0 hown hK hP 0 rfl rfl 2 (by decide) (htg _ q_1_100) (fun _ h9 => h9) rfl dX0_copyElements_34 ?_
      refine lv_iload_n hx hb dX0_copyElements_37 rfl (lv_at hl 2 rfl) ?_
      refine lv_bipush (v := (40 : Int32)) hx hb dX0_copyElements_38 (by decide) ?_
      refine lv_imul hx hb dX0_copyElements_40 ?_
      refine lv_iload hx hb dX0_copyElements_41 (lv_at hl 4 rfl) ?_
      refine lv_iadd hx hb dX0_copyElements_43 ?_
      refine lv_iload hx hb dX0_copyElements_44 (lv_at hl 5 rfl) ?_
      obtain ⟨⟨hy71, hy72, hy73, hy74, hy75⟩, hm⟩ := gd_s hm
      refine va_copyl hx hb (hml.trans hl.1.symm) hown (htg _ q_2_67) (htg _ q_2_69) (htg _ q_2_68) (htg _ q_1_9) hK hP hD hS 2 2 1 1 rfl rfl rfl rfl rfl hy71 hy72 hy73 hy74 hy75 (fun _ _ => rfl) (Nat.le_of_ble_eq_true rfl) (Nat.le_of_ble_eq_true rfl) dX0_copyElements_46 (fun H locs (hP : va_P D CL [(a0, e_X0 a1 a2 a3), (a2, eI cA 8 t_sizes), (a3, eJ cA 320 (va_cpy t_elements t_elements ((l1 * (40 : Int32)) + l3).toNatClampNeg ((l2 * (40 : Int32)) + l4).toNatClampNeg l5.toNatClampNeg))] H) (hD : va_D A [(a0, e_X0 a1 a2 a3), (a2, eI cA 8 t_sizes), (a3, eJ cA 320 (va_cpy t_elements t_elements ((l1 * (40 : Int32)) + l3).toNatClampNeg ((l2 * (40 : Int32)) + l4).toNatClampNeg l5.toNatClampNeg))]) hS => ?_)
      exact B_49 _ _ _ _ hm hP hD hS (lv_sub hl [0] rfl)
def b_X0_elementAt_25 (fu : Nat) (t_sizes : Nat → Int32) (t_elements : Nat → Int64) (s0 : Int64) : Option (Int64 × Unit) :=
  some (s0, ())
def m_X0_elementAt (fu : Nat) (t_sizes : Nat → Int32) (t_elements : Nat → Int64) (l1 : Int32) (l2 : Int32) : Option (Int64 × Unit) :=
  (m_X0_hasPlaces fu t_sizes l1 l2 (1 : Int32)).bind fun o1 =>
  (if o1.1 = 0 then
    b_X0_elementAt_25 fu t_sizes t_elements (0 : Int64)
  else
    gd (inb ((l1 * (40 : Int32)) + l2) 320) (
    b_X0_elementAt_25 fu t_sizes t_elements (t_elements ((l1 * (40 : Int32)) + l2).toNatClampNeg)))
abbrev rm_X0_elementAt : Room := ({ frames := 3, cells := 0, slots := 0, locals := 65 } : Room)
abbrev w0_X0_elementAt (cA : Nat → ClassId) (a0 : Nat) (a1 : Nat) (a2 : Nat) (a3 : Nat) (t_sizes : Nat → Int32) (t_elements : Nat → Int64) : va_W := [(a0, e_X0 a1 a2 a3), (a2, eI cA 8 t_sizes), (a3, eJ cA 320 t_elements)]
abbrev w1_X0_elementAt (cA : Nat → ClassId) (a0 : Nat) (a1 : Nat) (a2 : Nat) (a3 : Nat) (t_sizes : Nat → Int32) (t_elements : Nat → Int64) (u : Unit) : va_W := [(a0, e_X0 a1 a2 a3), (a2, eI cA 8 t_sizes), (a3, eJ cA 320 t_elements)]
theorem hd_X0_elementAt : yX0_elementAt.cls = RX0 ∧ yX0_elementAt.cls ≠ "java/lang/invoke/MethodHandle" ∧ yX0_elementAt.cls ≠ "java/lang/invoke/VarHandle" ∧ (parseMethodDescriptor yX0_elementAt.desc).map (fun d => d.parameters.length) = some 2 := by decide +kernel
set_option maxHeartbeats 40000000 in
set_option maxRecDepth 100000 in
theorem c_X0_elementAt (l : Launch) (D : va_G) (cA : Nat → ClassId) (sz : Nat) (fu : Nat) (a0 : Nat) (a1 : Nat) (a2 : Nat) (a3 : Nat) (t_sizes : Nat → Int32) (t_elements : Nat → Int64) (l1 : Int32) (l2 : Int32) (out : Int64 × Unit) (hm : m_X0_elementAt fu t_sizes t_elements l1 l2 = some out) : ML l yX0_elementAt (wU yX0_elementAt cX0_elementAt 3 ((Option.some Jvm.ClassFile.FieldType.long))) rm_X0_elementAt D cA sz [.ref a0, .int l1, .int l2] (w0_X0_elementAt cA a0 a1 a2 a3 t_sizes t_elements) out (w1_X0_elementAt cA a0 a1 a2 a3 t_sizes t_elements) := by
  refine Met.ofW (cc := cX0_elementAt) (maxL := 3) (ret := (Option.some Jvm.ClassFile.FieldType.long)) (by decide) rfl ?_
  intro p e s m args below meth c s₁ B hml hv
  obtain ⟨hargs, hsz, hP, hK, hD0, hN⟩ := hv
  have hx := B.exec
  have hb := B.bytes
  have hr := B.returns
  have htg : ∀ w ∈ gw, w.before args s = true := fun w h => atoms_spec (ws := wU yX0_elementAt cX0_elementAt 3 ((Option.some Jvm.ClassFile.FieldType.long))) B.pre w (List.mem_cons_of_mem _ h)
  have hown : s.vm.findClass RX0 = some m.cls := findClass_of_methodNamed B.named
  have hlocks := B.notSynchronized
  subst hsz
  have hD := hD0.self (sz := s.heap.size)
  have hA : ∀ q : Nat, s.heap.size ≤ q → va_A (w0_X0_elementAt cA a0 a1 a2 a3 t_sizes t_elements) s.heap.size q := fun q h => Or.inr h
  have hS : va_S (va_A (w0_X0_elementAt cA a0 a1 a2 a3 t_sizes t_elements) s.heap.size) s.heap s.heap [] := va_S.rf
  generalize va_A (w0_X0_elementAt cA a0 a1 a2 a3 t_sizes t_elements) s.heap.size = A at hA hD hS ⊢
  obtain ⟨Q, hQ⟩ : ∃ Q : State → Prop, Q = MQ below (va_Ql (fun (r : Int64) (u : Unit) => (r, u) = out) (pst0 D cA A (w1_X0_elementAt cA a0 a1 a2 a3 t_sizes t_elements)) A) args s 0 0 A := ⟨_, rfl⟩
  refine (?_ : W p l e rm_X0_elementAt s m args below meth c s.heap [] 0 0 (MQ below (va_Ql (fun (r : Int64) (u : Unit) => (r, u) = out) (pst0 D cA A (w1_X0_elementAt cA a0 a1 a2 a3 t_sizes t_elements)) A) args s 0 0 A) (entryFrame m args 3))
  rw [← hQ]
  have hP : va_P D CL [(a0, e_X0 a1 a2 a3), (a2, eI cA 8 t_sizes), (a3, eJ cA 320 t_elements)] s.heap := hP
  have hD : va_D A [(a0, e_X0 a1 a2 a3), (a2, eI cA 8 t_sizes), (a3, eJ cA 320 t_elements)] := hD
  have B_25 : ∀ (s0 : Int64) (H : Heap) (locs : List Loc) (ls : Array Slot), b_X0_elementAt_25 fu t_sizes t_elements s0 = some out → va_P D CL [(a0, e_X0 a1 a2 a3), (a2, eI cA 8 t_sizes), (a3, eJ cA 320 t_elements)] H → va_D A [(a0, e_X0 a1 a2 a3), (a2, eI cA 8 t_sizes), (a3, eJ cA 320 t_elements)] → va_S A s.heap H locs → lv_has ls 3 [(0, .ref a0)] → W p l e rm_X0_elementAt s m args below meth c H locs 0 0 Q (F0 m 25 ls [.long s0]) := by
    intro  s0 H locs ls hm hP hD hS hl
    unfold b_X0_elementAt_25 at hm
    rw [hQ]
    exact W.lret (v := s0) hx hb hr (fun t9 ht hW => ⟨⟨s0, (), rfl, (Option.some.inj hm), by rw [ht]; exact hP, va_K.moved hW.alike hK, hD⟩, hS.F ht⟩) hS.2.2 dX0_elementAt_25
  unfold m_X0_elementAt at hm
  subst hargs
  have hl := lv_entry ([.ref a0, .int l1, .int l2]) (n := 3) (Nat.le_of_ble_eq_true rfl)
  rw [lg_entry_eq]
  generalize (lg_sl ([.ref a0, .int l1, .int l2]) ++ List.replicate (3 - (lg_sl ([.ref a0, .int l1, .int l2])).length) Slot.unset).toArray = ls at hl ⊢
  have hl : lv_has ls 3 [(0, .ref a0), (1, .int l1), (2, .int l2)] := hl
  refine lv_aload_n hx hb dX0_elementAt_0 rfl (lv_at hl 0 rfl) ?_
  refine lv_iload_n hx hb dX0_elementAt_1 rfl (lv_at hl 1 rfl) ?_
  refine lv_iload_n hx hb dX0_elementAt_2 rfl (lv_at hl 2 rfl) ?_
  refine lv_iconst (v := (1 : Int32)) hx hb dX0_elementAt_3 (by decide) ?_
  obtain ⟨o1, ho2, hm⟩ := bd_s hm
  refine xr_i (wr := [(a3, eJ cA 320 t_elements)]) (wn := [(a0, e_X0 a1 a2 a3), (a2, eI cA 8 t_sizes), (a3, eJ cA 320 t_elements)]) (va_runV (As := [.int l1, .int l2, .int (1 : Int32)]) (rest := []) ⟨hx, hb, hml, hown, htg⟩ (c_X0_hasPlaces l D cA _ fu a0 a1 a2 a3 t_sizes l1 l2 (1 : Int32) o1 ho2) (cwV 3 htg (gV q_2_50 q_2_44 q_p1_5 q_1_3 q_2_45) rfl rfl rfl hd_X0_hasPlaces ⟨Nat.le_of_ble_eq_true rfl, Nat.le_of_ble_eq_true rfl⟩) (xpV hN hK hP hD [0, 1] rfl (by decide) rfl rfl) rfl rfl hl.1 rfl (lv_room (Nat.le_of_ble_eq_true rfl)) dX0_elementAt_4 ⟨Nat.zero_le _, Nat.zero_le _⟩) hP hD hS hA [0, 1] [2] [1, 2, 0] rfl rfl (by decide) (by decide) rfl (by decide) (fun H locs hP hD hS => ?_)
  refine lv_if_eq (tgt := 24) hx hb dX0_elementAt_7 (by decide) (fun c3 => ?_) (fun c3 => ?_)
  · have hm := it_t c3 hm
    refine lv_lconst (v := (0 : Int64)) hx hb dX0_elementAt_24 (by decide) ?_
    exact B_25 _ _ _ _ hm hP hD hS (lv_sub hl [0] rfl)
  · have hm := it_f c3 hm
    refine lv_aload_n hx hb dX0_elementAt_10 rfl (lv_at hl 0 rfl) ?_
    refine va_get (D := D) (ci := 0) (v := .ref a3) (C := RX0) (T := TX0) (N := 3) hx hb htg inX0 hown hK hP 0 rfl rfl 2 (by decide) (htg _ q_1_100) (fun _ h9 => h9) rfl dX0_elementAt_11 ?_
    refine lv_iload_n hx hb dX0_elementAt_14 rfl (lv_at hl 1 rfl) ?_
    refine lv_bipush (v := (40 : Int32)) hx hb dX0_elementAt_15 (by decide) ?_
    refine lv_imul hx hb dX0_elementAt_17 ?_
    refine lv_iload_n hx hb dX0_elementAt_18 rfl (lv_at hl 2 rfl) ?_
    refine lv_iadd hx hb dX0_elementAt_19 ?_
    obtain ⟨hi4, hm⟩ := gd_s hm
    refine va_lald hx hb hK hP 2 1 rfl rfl hi4 dX0_elementAt_20 ?_
    refine lv_goto (tgt := 25) hx hb dX0_elementAt_21 (by decide) ?_
    exact B_25 _ _ _ _ hm hP hD hS (lv_sub hl [0] rfl)
def b_X0_putVoice_33 (fu : Nat) (t_holding : Nat → Int32) (t_sizes : Nat → Int32) : Option ((Nat → Int32) × (Nat → Int32)) :=
  some (t_holding, t_sizes)
def b_X0_putVoice_25 (fu : Nat) (l1 : Int32) (s1 : Int32) (s2 : Int32) (t_holding : Nat → Int32) (t_sizes : Nat → Int32) : Option ((Nat → Int32) × (Nat → Int32)) :=
  gd (inb s1 8) (
    gd (inb l1 8) (
    b_X0_putVoice_33 fu (upd t_holding s1.toNatClampNeg s2) (upd t_sizes l1.toNatClampNeg (0 : Int32))))
def m_X0_putVoice (fu : Nat) (t_holding : Nat → Int32) (t_sizes : Nat → Int32) (l1 : Int32) (l2 : Int32) : Option ((Nat → Int32) × (Nat → Int32)) :=
  (m_X5_isShelf fu l1).bind fun o3 =>
  (if o3.1 = 0 then
    b_X0_putVoice_33 fu t_holding t_sizes
  else
    (if l2 = (-1 : Int32) then
      b_X0_putVoice_25 fu l1 l1 (-1 : Int32) t_holding t_sizes
    else
      b_X0_putVoice_25 fu l1 l1 ((10 : Int32) + l2) t_holding t_sizes))
abbrev rm_X0_putVoice : Room := ({ frames := 2, cells := 0, slots := 0, locals := 42 } : Room)
abbrev w0_X0_putVoice (cA : Nat → ClassId) (a0 : Nat) (a1 : Nat) (a2 : Nat) (a3 : Nat) (t_holding : Nat → Int32) (t_sizes : Nat → Int32) : va_W := [(a0, e_X0 a1 a2 a3), (a1, eI cA 8 t_holding), (a2, eI cA 8 t_sizes)]
abbrev w1_X0_putVoice (cA : Nat → ClassId) (a0 : Nat) (a1 : Nat) (a2 : Nat) (a3 : Nat) (u : (Nat → Int32) × (Nat → Int32)) : va_W := [(a0, e_X0 a1 a2 a3), (a1, eI cA 8 u.1), (a2, eI cA 8 u.2)]
theorem hd_X0_putVoice : yX0_putVoice.cls = RX0 ∧ yX0_putVoice.cls ≠ "java/lang/invoke/MethodHandle" ∧ yX0_putVoice.cls ≠ "java/lang/invoke/VarHandle" ∧ (parseMethodDescriptor yX0_putVoice.desc).map (fun d => d.parameters.length) = some 2 := by decide +kernel
set_option maxHeartbeats 40000000 in
set_option maxRecDepth 100000 in
theorem c_X0_putVoice (l : Launch) (D : va_G) (cA : Nat → ClassId) (sz : Nat) (fu : Nat) (a0 : Nat) (a1 : Nat) (a2 : Nat) (a3 : Nat) (t_holding : Nat → Int32) (t_sizes : Nat → Int32) (l1 : Int32) (l2 : Int32) (out : (Nat → Int32) × (Nat → Int32)) (hm : m_X0_putVoice fu t_holding t_sizes l1 l2 = some out) : MV l yX0_putVoice (wU yX0_putVoice cX0_putVoice 3 ((Option.none : Option Jvm.ClassFile.FieldType))) rm_X0_putVoice D cA sz [.ref a0, .int l1, .int l2] (w0_X0_putVoice cA a0 a1 a2 a3 t_holding t_sizes) out (w1_X0_putVoice cA a0 a1 a2 a3) := by
  refine Met.ofW (cc := cX0_putVoice) (maxL := 3) (ret := (Option.none : Option Jvm.ClassFile.FieldType)) (by decide) rfl ?_
  intro p e s m args below meth c s₁ B hml hv
  obtain ⟨hargs, hsz, hP, hK, hD0, hN⟩ := hv
  have hx := B.exec
  have hb := B.bytes
  have hr := B.returns
  have htg : ∀ w ∈ gw, w.before args s = true := fun w h => atoms_spec (ws := wU yX0_putVoice cX0_putVoice 3 ((Option.none : Option Jvm.ClassFile.FieldType))) B.pre w (List.mem_cons_of_mem _ h)
  have hown : s.vm.findClass RX0 = some m.cls := findClass_of_methodNamed B.named
  have hlocks := B.notSynchronized
  subst hsz
  have hD := hD0.self (sz := s.heap.size)
  have hA : ∀ q : Nat, s.heap.size ≤ q → va_A (w0_X0_putVoice cA a0 a1 a2 a3 t_holding t_sizes) s.heap.size q := fun q h => Or.inr h
  have hS : va_S (va_A (w0_X0_putVoice cA a0 a1 a2 a3 t_holding t_sizes) s.heap.size) s.heap s.heap [] := va_S.rf
  generalize va_A (w0_X0_putVoice cA a0 a1 a2 a3 t_holding t_sizes) s.heap.size = A at hA hD hS ⊢
  obtain ⟨Q, hQ⟩ : ∃ Q : State → Prop, Q = MQ below (va_Qv (fun (u : (Nat → Int32) × (Nat → Int32)) => u = out) (pst0 D cA A (w1_X0_putVoice cA a0 a1 a2 a3)) A) args s 0 0 A := ⟨_, rfl⟩
  refine (?_ : W p l e rm_X0_putVoice s m args below meth c s.heap [] 0 0 (MQ below (va_Qv (fun (u : (Nat → Int32) × (Nat → Int32)) => u = out) (pst0 D cA A (w1_X0_putVoice cA a0 a1 a2 a3)) A) args s 0 0 A) (entryFrame m args 3))
  rw [← hQ]
  have hP : va_P D CL [(a0, e_X0 a1 a2 a3), (a1, eI cA 8 t_holding), (a2, eI cA 8 t_sizes)] s.heap := hP
  have hD : va_D A [(a0, e_X0 a1 a2 a3), (a1, eI cA 8 t_holding), (a2, eI cA 8 t_sizes)] := hD
  have B_33 : ∀ (t_holding : Nat → Int32) (t_sizes : Nat → Int32) (H : Heap) (locs : List Loc) (ls : Array Slot), b_X0_putVoice_33 fu t_holding t_sizes = some out → va_P D CL [(a0, e_X0 a1 a2 a3), (a1, eI cA 8 t_holding), (a2, eI cA 8 t_sizes)] H → va_D A [(a0, e_X0 a1 a2 a3), (a1, eI cA 8 t_holding), (a2, eI cA 8 t_sizes)] → va_S A s.heap H locs → lv_has ls 3 [(0, .ref a0)] → W p l e rm_X0_putVoice s m args below meth c H locs 0 0 Q (F0 m 33 ls []) := by
    intro  t_holding t_sizes H locs ls hm hP hD hS hl
    unfold b_X0_putVoice_33 at hm
    rw [hQ]
    exact W.vret hx hb hr (fun t9 ht hW => ⟨⟨(t_holding, t_sizes), rfl, (Option.some.inj hm), by rw [ht]; exact hP, va_K.moved hW.alike hK, hD⟩, hS.F ht⟩) hS.2.2 dX0_putVoice_33
  have B_25 : ∀ (l1 : Int32) (s1 : Int32) (s2 : Int32) (t_holding : Nat → Int32) (t_sizes : Nat → Int32) (H : Heap) (locs : List Loc) (ls : Array Slot), b_X0_putVoice_25 fu l1 s1 s2 t_holding t_sizes = some out → va_P D CL [(a0, e_X0 a1 a2 a3), (a1, eI cA 8 t_holding), (a2, eI cA 8 t_sizes)] H → va_D A [(a0, e_X0 a1 a2 a3), (a1, eI cA 8 t_holding), (a2, eI cA 8 t_sizes)] → va_S A s.heap H locs → lv_has ls 3 [(0, .ref a0), (1, .int l1)] → W p l e rm_X0_putVoice s m args below meth c H locs 0 0 Q (F0 m 25 ls [.int s2, .int s1, .ref a1]) := by
    intro  l1 s1 s2 t_holding t_sizes H locs ls hm hP hD hS hl
    unfold b_X0_putVoice_25 at hm
    obtain ⟨hi1, hm⟩ := gd_s hm
    refine va_iast hx hb hK hP hD hS 1 0 rfl rfl hi1 dX0_putVoice_25 (fun H locs (hP : va_P D CL [(a0, e_X0 a1 a2 a3), (a1, eI cA 8 (upd t_holding s1.toNatClampNeg s2)), (a2, eI cA 8 t_sizes)] H) (hD : va_D A [(a0, e_X0 a1 a2 a3), (a1, eI cA 8 (upd t_holding s1.toNatClampNeg s2)), (a2, eI cA 8 t_sizes)]) hS => ?_)
    refine lv_aload_n hx hb dX0_putVoice_26 rfl (lv_at hl 0 rfl) ?_
    refine va_get (D := D) (ci := 0) (v := .ref a2) (C := RX0) (T := TX0) (N := 3) hx hb htg inX0 hown hK hP 0 rfl rfl 1 (by decide) (htg _ q_1_99) (fun _ h9 => h9) rfl dX0_putVoice_27 ?_
    refine lv_iload_n hx hb dX0_putVoice_30 rfl (lv_at hl 1 rfl) ?_
    refine lv_iconst (v := (0 : Int32)) hx hb dX0_putVoice_31 (by decide) ?_
    obtain ⟨hi2, hm⟩ := gd_s hm
    refine va_iast hx hb hK hP hD hS 2 0 rfl rfl hi2 dX0_putVoice_32 (fun H locs (hP : va_P D CL [(a0, e_X0 a1 a2 a3), (a1, eI cA 8 (upd t_holding s1.toNatClampNeg s2)), (a2, eI cA 8 (upd t_sizes l1.toNatClampNeg (0 : Int32)))] H) (hD : va_D A [(a0, e_X0 a1 a2 a3), (a1, eI cA 8 (upd t_holding s1.toNatClampNeg s2)), (a2, eI cA 8 (upd t_sizes l1.toNatClampNeg (0 : Int32)))]) hS => ?_)
    exact B_33 _ _ _ _ _ hm hP hD hS (lv_sub hl [0] rfl)
  unfold m_X0_putVoice at hm
  subst hargs
  have hl := lv_entry ([.ref a0, .int l1, .int l2]) (n := 3) (Nat.le_of_ble_eq_true rfl)
  rw [lg_entry_eq]
  generalize (lg_sl ([.ref a0, .int l1, .int l2]) ++ List.replicate (3 - (lg_sl ([.ref a0, .int l1, .int l2])).length) Slot.unset).toArray = ls at hl ⊢
  have hl : lv_has ls 3 [(0, .ref a0), (1, .int l1), (2, .int l2)] := hl
  refine lv_iload_n hx hb dX0_putVoice_0 rfl (lv_at hl 1 rfl) ?_
  obtain ⟨o3, ho4, hm⟩ := bd_s hm
  refine xr_i (wr := [(a0, e_X0 a1 a2 a3), (a1, eI cA 8 t_holding), (a2, eI cA 8 t_sizes)]) (wn := [(a0, e_X0 a1 a2 a3), (a1, eI cA 8 t_holding), (a2, eI cA 8 t_sizes)]) (va_runSN (As := [.int l1]) (rest := []) ⟨hx, hb, hml, hown, htg⟩ (c_X5_isShelf l D cA _ fu l1 o3 ho4) ⟨va_cnB 1 htg (gU q_2_6) rfl rfl rfl (hN _ q_2_18) (htg _ q_1_1) hd_X5_isShelf.2 ⟨Nat.le_of_ble_eq_true rfl, Nat.le_of_ble_eq_true rfl⟩, htg _ q_2_5, trivial⟩ (xpS hN hK hP hD [] rfl (by decide)) rfl rfl hl.1 rfl (lv_room (Nat.le_of_ble_eq_true rfl)) dX0_putVoice_1 ⟨Nat.zero_le _, Nat.zero_le _⟩) hP hD hS hA [] [0, 1, 2] [0, 1, 2] rfl rfl (by decide) (by decide) rfl (by decide) (fun H locs hP hD hS => ?_)
  refine lv_if_eq (tgt := 33) hx hb dX0_putVoice_4 (by decide) (fun c5 => ?_) (fun c5 => ?_)
  · have hm := it_t c5 hm
    exact B_33 _ _ _ _ _ hm hP hD hS (lv_sub hl [0] rfl)
  · have hm := it_f c5 hm
    refine lv_aload_n hx hb dX0_putVoice_7 rfl (lv_at hl 0 rfl) ?_
    refine va_get (D := D) (ci := 0) (v := .ref a1) (C := RX0) (T := TX0) (N := 3) hx hb htg inX0 hown hK hP 0 rfl rfl 0 (by decide) (htg _ q_1_98) (fun _ h9 => h9) rfl dX0_putVoice_8 ?_
    refine lv_iload_n hx hb dX0_putVoice_11 rfl (lv_at hl 1 rfl) ?_
    refine lv_iload_n hx hb dX0_putVoice_12 rfl (lv_at hl 2 rfl) ?_
    refine lv_iconst (v := (-1 : Int32)) hx hb dX0_putVoice_13 (by decide) ?_
    refine lv_icmp_ne (tgt := 21) hx hb dX0_putVoice_14 (by decide) (fun c6 => ?_) (fun c6 => ?_)
    · have hm := it_f c6 hm
      refine lv_bipush (v := (10 : Int32)) hx hb dX0_putVoice_21 (by decide) ?_
      refine lv_iload_n hx hb dX0_putVoice_23 rfl (lv_at hl 2 rfl) ?_
      refine lv_iadd hx hb dX0_putVoice_24 ?_
      exact B_25 _ _ _ _ _ _ _ _ hm hP hD hS (lv_sub hl [0, 1] rfl)
    · have hm := it_t c6 hm
      refine lv_iconst (v := (-1 : Int32)) hx hb dX0_putVoice_17 (by decide) ?_
      refine lv_goto (tgt := 25) hx hb dX0_putVoice_18 (by decide) ?_
      exact B_25 _ _ _ _ _ _ _ _ hm hP hD hS (lv_sub hl [0, 1] rfl)
def b_X0_dropVoicesFrom_28 (fu : Nat) (k_2 : (Int32 × Int32 × (Nat → Int32)) → Option ((Nat → Int32))) (l1 : Int32) (l2 : Int32) (t_holding : Nat → Int32) : Option ((Nat → Int32)) :=
  k_2 (l1, (l2 + (1 : Int32)), t_holding)
def b_X0_dropVoicesFrom_2 (fu : Nat) (k_2 : (Int32 × Int32 × (Nat → Int32)) → Option ((Nat → Int32))) (x : Int32 × Int32 × (Nat → Int32)) : Option ((Nat → Int32)) :=
  (if (8 : Int32) ≤ x.2.1 then
        some x.2.2
      else
        gd (inb x.2.1 8) (
        (if (x.2.2 x.2.1.toNatClampNeg) < ((10 : Int32) + x.1) then
          b_X0_dropVoicesFrom_28 fu k_2 x.1 x.2.1 x.2.2
        else
          gd (inb x.2.1 8) (
          b_X0_dropVoicesFrom_28 fu k_2 x.1 x.2.1 (upd x.2.2 x.2.1.toNatClampNeg (-1 : Int32))))))
def m_X0_dropVoicesFrom (fu : Nat) (t_holding : Nat → Int32) (l1 : Int32) : Option ((Nat → Int32)) :=
  lfix (b_X0_dropVoicesFrom_2 fu) fu (l1, (0 : Int32), t_holding)
abbrev rm_X0_dropVoicesFrom : Room := ({ frames := 0, cells := 0, slots := 0, locals := 0 } : Room)
abbrev w0_X0_dropVoicesFrom (cA : Nat → ClassId) (a0 : Nat) (a1 : Nat) (a2 : Nat) (a3 : Nat) (t_holding : Nat → Int32) : va_W := [(a0, e_X0 a1 a2 a3), (a1, eI cA 8 t_holding)]
abbrev w1_X0_dropVoicesFrom (cA : Nat → ClassId) (a0 : Nat) (a1 : Nat) (a2 : Nat) (a3 : Nat) (u : (Nat → Int32)) : va_W := [(a0, e_X0 a1 a2 a3), (a1, eI cA 8 u)]
theorem hd_X0_dropVoicesFrom : yX0_dropVoicesFrom.cls = RX0 ∧ yX0_dropVoicesFrom.cls ≠ "java/lang/invoke/MethodHandle" ∧ yX0_dropVoicesFrom.cls ≠ "java/lang/invoke/VarHandle" ∧ (parseMethodDescriptor yX0_dropVoicesFrom.desc).map (fun d => d.parameters.length) = some 1 := by decide +kernel
set_option maxHeartbeats 40000000 in
set_option maxRecDepth 100000 in
theorem c_X0_dropVoicesFrom (l : Launch) (D : va_G) (cA : Nat → ClassId) (sz : Nat) (fu : Nat) (a0 : Nat) (a1 : Nat) (a2 : Nat) (a3 : Nat) (t_holding : Nat → Int32) (l1 : Int32) (out : (Nat → Int32)) (hm : m_X0_dropVoicesFrom fu t_holding l1 = some out) : MV l yX0_dropVoicesFrom (wU yX0_dropVoicesFrom cX0_dropVoicesFrom 3 ((Option.none : Option Jvm.ClassFile.FieldType))) rm_X0_dropVoicesFrom D cA sz [.ref a0, .int l1] (w0_X0_dropVoicesFrom cA a0 a1 a2 a3 t_holding) out (w1_X0_dropVoicesFrom cA a0 a1 a2 a3) := by
  refine Met.ofW (cc := cX0_dropVoicesFrom) (maxL := 3) (ret := (Option.none : Option Jvm.ClassFile.FieldType)) (by decide) rfl ?_
  intro p e s m args below meth c s₁ B hml hv
  obtain ⟨hargs, hsz, hP, hK, hD0, hN⟩ := hv
  have hx := B.exec
  have hb := B.bytes
  have hr := B.returns
  have htg : ∀ w ∈ gw, w.before args s = true := fun w h => atoms_spec (ws := wU yX0_dropVoicesFrom cX0_dropVoicesFrom 3 ((Option.none : Option Jvm.ClassFile.FieldType))) B.pre w (List.mem_cons_of_mem _ h)
  have hown : s.vm.findClass RX0 = some m.cls := findClass_of_methodNamed B.named
  have hlocks := B.notSynchronized
  subst hsz
  have hD := hD0.self (sz := s.heap.size)
  have hA : ∀ q : Nat, s.heap.size ≤ q → va_A (w0_X0_dropVoicesFrom cA a0 a1 a2 a3 t_holding) s.heap.size q := fun q h => Or.inr h
  have hS : va_S (va_A (w0_X0_dropVoicesFrom cA a0 a1 a2 a3 t_holding) s.heap.size) s.heap s.heap [] := va_S.rf
  generalize va_A (w0_X0_dropVoicesFrom cA a0 a1 a2 a3 t_holding) s.heap.size = A at hA hD hS ⊢
  obtain ⟨Q, hQ⟩ : ∃ Q : State → Prop, Q = MQ below (va_Qv (fun (u : (Nat → Int32)) => u = out) (pst0 D cA A (w1_X0_dropVoicesFrom cA a0 a1 a2 a3)) A) args s 0 0 A := ⟨_, rfl⟩
  refine (?_ : W p l e rm_X0_dropVoicesFrom s m args below meth c s.heap [] 0 0 (MQ below (va_Qv (fun (u : (Nat → Int32)) => u = out) (pst0 D cA A (w1_X0_dropVoicesFrom cA a0 a1 a2 a3)) A) args s 0 0 A) (entryFrame m args 3))
  rw [← hQ]
  have hP : va_P D CL [(a0, e_X0 a1 a2 a3), (a1, eI cA 8 t_holding)] s.heap := hP
  have hD : va_D A [(a0, e_X0 a1 a2 a3), (a1, eI cA 8 t_holding)] := hD
  have B_28 : ∀ (k_2 : (Int32 × Int32 × (Nat → Int32)) → Option ((Nat → Int32))) (HK_2 : ∀ (x : Int32 × Int32 × (Nat → Int32)) (H : Heap) (locs : List Loc) (ls : Array Slot), k_2 x = some out → va_P D CL [(a0, e_X0 a1 a2 a3), (a1, eI cA 8 x.2.2)] H → va_D A [(a0, e_X0 a1 a2 a3), (a1, eI cA 8 x.2.2)] → va_S A s.heap H locs → lv_has ls 3 [(0, .ref a0), (1, .int x.1), (2, .int x.2.1)] → W p l e rm_X0_dropVoicesFrom s m args below meth c H locs 0 0 Q (F0 m 2 ls [])) (l1 : Int32) (l2 : Int32) (t_holding : Nat → Int32) (H : Heap) (locs : List Loc) (ls : Array Slot), b_X0_dropVoicesFrom_28 fu k_2 l1 l2 t_holding = some out → va_P D CL [(a0, e_X0 a1 a2 a3), (a1, eI cA 8 t_holding)] H → va_D A [(a0, e_X0 a1 a2 a3), (a1, eI cA 8 t_holding)] → va_S A s.heap H locs → lv_has ls 3 [(0, .ref a0), (1, .int l1), (2, .int l2)] → W p l e rm_X0_dropVoicesFrom s m args below meth c H locs 0 0 Q (F0 m 28 ls []) := by
    intro k_2 HK_2 l1 l2 t_holding H locs ls hm hP hD hS hl
    unfold b_X0_dropVoicesFrom_28 at hm
    refine lv_iinc (v := (l2 + (1 : Int32))) (lv' := [(2, .int (l2 + (1 : Int32))), (0, .ref a0), (1, .int l1)]) hx hb dX0_dropVoicesFrom_28 hl (k := 2) rfl rfl (by decide) rfl (fun ls hl => ?_)
    refine lv_goto (tgt := 2) hx hb dX0_dropVoicesFrom_31 (by decide) ?_
    exact HK_2 _ _ _ _ hm hP hD hS (lv_sub hl [1, 2, 0] rfl)
  have B_2 : ∀ (n : Nat) (x : Int32 × Int32 × (Nat → Int32)) (H : Heap) (locs : List Loc) (ls : Array Slot), lfix (b_X0_dropVoicesFrom_2 fu) n x = some out → va_P D CL [(a0, e_X0 a1 a2 a3), (a1, eI cA 8 x.2.2)] H → va_D A [(a0, e_X0 a1 a2 a3), (a1, eI cA 8 x.2.2)] → va_S A s.heap H locs → lv_has ls 3 [(0, .ref a0), (1, .int x.1), (2, .int x.2.1)] → W p l e rm_X0_dropVoicesFrom s m args below meth c H locs 0 0 Q (F0 m 2 ls []) := by
    intro  n
    induction n with
    | zero => intro x H locs ls hm; cases (show none = some out from hm)
    | succ n HK_2 =>
      intro x H locs ls hm hP hD hS hl
      replace hm : b_X0_dropVoicesFrom_2 fu (lfix (b_X0_dropVoicesFrom_2 fu) n) x = some out := hm
      unfold b_X0_dropVoicesFrom_2 at hm
      refine lv_iload_n hx hb dX0_dropVoicesFrom_2 rfl (lv_at hl 2 rfl) ?_
      refine lv_bipush (v := (8 : Int32)) hx hb dX0_dropVoicesFrom_3 (by decide) ?_
      refine lv_icmp_ge (tgt := 34) hx hb dX0_dropVoicesFrom_5 (by decide) (fun c1 => ?_) (fun c1 => ?_)
      · have hm := it_t c1 hm
        rw [hQ]
        exact W.vret hx hb hr (fun t9 ht hW => ⟨⟨x.2.2, rfl, (Option.some.inj hm), by rw [ht]; exact hP, va_K.moved hW.alike hK, hD⟩, hS.F ht⟩) hS.2.2 dX0_dropVoicesFrom_34
      · have hm := it_f c1 hm
        refine lv_aload_n hx hb dX0_dropVoicesFrom_8 rfl (lv_at hl 0 rfl) ?_
        refine va_get (D := D) (ci := 0) (v := .ref a1) (C := RX0) (T := TX0) (N := 3) hx hb htg inX0 hown hK hP 0 rfl rfl 0 (by decide) (htg _ q_1_98) (fun _ h9 => h9) rfl dX0_dropVoicesFrom_9 ?_
        refine lv_iload_n hx hb dX0_dropVoicesFrom_12 rfl (lv_at hl 2 rfl) ?_
        obtain ⟨hi2, hm⟩ := gd_s hm
        refine va_iald hx hb hK hP 1 0 rfl rfl hi2 dX0_dropVoicesFrom_13 ?_
        refine lv_bipush (v := (10 : Int32)) hx hb dX0_dropVoicesFrom_14 (by decide) ?_
        refine lv_iload_n hx hb dX0_dropVoicesFrom_16 rfl (lv_at hl 1 rfl) ?_
        refine lv_iadd hx hb dX0_dropVoicesFrom_17 ?_
        refine lv_icmp_lt (tgt := 28) hx hb dX0_dropVoicesFrom_18 (by decide) (fun c3 => ?_) (fun c3 => ?_)
        · have hm := it_t c3 hm
          exact B_28 _ HK_2 _ _ _ _ _ _ hm hP hD hS (lv_sub hl [0, 1, 2] rfl)
        · have hm := it_f c3 hm
          refine lv_aload_n hx hb dX0_dropVoicesFrom_21 rfl (lv_at hl 0 rfl) ?_
          refine va_get (D := D) (ci := 0) (v := .ref a1) (C := RX0) (T := TX0) (N := 3) hx hb htg inX0 hown hK hP 0 rfl rfl 0 (by decide) (htg _ q_1_98) (fun _ h9 => h9) rfl dX0_dropVoicesFrom_22 ?_
          refine lv_iload_n hx hb dX0_dropVoicesFrom_25 rfl (lv_at hl 2 rfl) ?_
          refine lv_iconst (v := (-1 : Int32)) hx hb dX0_dropVoicesFrom_26 (by decide) ?_
          obtain ⟨hi4, hm⟩ := gd_s hm
          refine va_iast hx hb hK hP hD hS 1 0 rfl rfl hi4 dX0_dropVoicesFrom_27 (fun H locs (hP : va_P D CL [(a0, e_X0 a1 a2 a3), (a1, eI cA 8 (upd x.2.2 x.2.1.toNatClampNeg (-1 : Int32)))] H) (hD : va_D A [(a0, e_X0 a1 a2 a3), (a1, eI cA 8 (upd x.2.2 x.2.1.toNatClampNeg (-1 : Int32)))]) hS => ?_)
          exact B_28 _ HK_2 _ _ _ _ _ _ hm hP hD hS (lv_sub hl [0, 1, 2] rfl)
  unfold m_X0_dropVoicesFrom at hm
  subst hargs
  have hl := lv_entry ([.ref a0, .int l1]) (n := 3) (Nat.le_of_ble_eq_true rfl)
  rw [lg_entry_eq]
  generalize (lg_sl ([.ref a0, .int l1]) ++ List.replicate (3 - (lg_sl ([.ref a0, .int l1])).length) Slot.unset).toArray = ls at hl ⊢
  have hl : lv_has ls 3 [(0, .ref a0), (1, .int l1)] := hl
  refine lv_iconst (v := (0 : Int32)) hx hb dX0_dropVoicesFrom_0 (by decide) ?_
  refine lv_istore_n (lv' := [(2, .int (0 : Int32)), (0, .ref a0), (1, .int l1)]) hx hb dX0_dropVoicesFrom_1 rfl hl (by decide) rfl (fun ls hl => ?_)
  exact B_2 fu _ _ _ _ hm hP hD hS (lv_sub hl [1, 2, 0] rfl)
def b_X0_countHolding_23 (fu : Nat) (t_holding : Nat → Int32) (k_4 : (Int32 × Int32) → Option (Int32 × Unit)) (l1 : Int32) (l2 : Int32) : Option (Int32 × Unit) :=
  k_4 (l1, (l2 + (1 : Int32)))
def b_X0_countHolding_4 (fu : Nat) (t_holding : Nat → Int32) (k_4 : (Int32 × Int32) → Option (Int32 × Unit)) (x : Int32 × Int32) : Option (Int32 × Unit) :=
  (if (8 : Int32) ≤ x.2 then
        some (x.1, ())
      else
        gd (inb x.2 8) (
        (if (t_holding x.2.toNatClampNeg) = (-1 : Int32) then
          b_X0_countHolding_23 fu t_holding k_4 x.1 x.2
        else
          b_X0_countHolding_23 fu t_holding k_4 (x.1 + (1 : Int32)) x.2)))
def m_X0_countHolding (fu : Nat) (t_holding : Nat → Int32) : Option (Int32 × Unit) :=
  lfix (b_X0_countHolding_4 fu t_holding) fu ((0 : Int32), (0 : Int32))
abbrev rm_X0_countHolding : Room := ({ frames := 0, cells := 0, slots := 0, locals := 0 } : Room)
abbrev w0_X0_countHolding (cA : Nat → ClassId) (a0 : Nat) (a1 : Nat) (a2 : Nat) (a3 : Nat) (t_holding : Nat → Int32) : va_W := [(a0, e_X0 a1 a2 a3), (a1, eI cA 8 t_holding)]
abbrev w1_X0_countHolding (cA : Nat → ClassId) (a0 : Nat) (a1 : Nat) (a2 : Nat) (a3 : Nat) (t_holding : Nat → Int32) (u : Unit) : va_W := [(a0, e_X0 a1 a2 a3), (a1, eI cA 8 t_holding)]
theorem hd_X0_countHolding : yX0_countHolding.cls = RX0 ∧ yX0_countHolding.cls ≠ "java/lang/invoke/MethodHandle" ∧ yX0_countHolding.cls ≠ "java/lang/invoke/VarHandle" ∧ (parseMethodDescriptor yX0_countHolding.desc).map (fun d => d.parameters.length) = some 0 := by decide +kernel
set_option maxHeartbeats 40000000 in
set_option maxRecDepth 100000 in
theorem c_X0_countHolding (l : Launch) (D : va_G) (cA : Nat → ClassId) (sz : Nat) (fu : Nat) (a0 : Nat) (a1 : Nat) (a2 : Nat) (a3 : Nat) (t_holding : Nat → Int32) (out : Int32 × Unit) (hm : m_X0_countHolding fu t_holding = some out) : MI l yX0_countHolding (wU yX0_countHolding cX0_countHolding 3 ((Option.some Jvm.ClassFile.FieldType.int))) rm_X0_countHolding D cA sz [.ref a0] (w0_X0_countHolding cA a0 a1 a2 a3 t_holding) out (w1_X0_countHolding cA a0 a1 a2 a3 t_holding) := by
  refine Met.ofW (cc := cX0_countHolding) (maxL := 3) (ret := (Option.some Jvm.ClassFile.FieldType.int)) (by decide) rfl ?_
  intro p e s m args below meth c s₁ B hml hv
  obtain ⟨hargs, hsz, hP, hK, hD0, hN⟩ := hv
  have hx := B.exec
  have hb := B.bytes
  have hr := B.returns
  have htg : ∀ w ∈ gw, w.before args s = true := fun w h => atoms_spec (ws := wU yX0_countHolding cX0_countHolding 3 ((Option.some Jvm.ClassFile.FieldType.int))) B.pre w (List.mem_cons_of_mem _ h)
  have hown : s.vm.findClass RX0 = some m.cls := findClass_of_methodNamed B.named
  have hlocks := B.notSynchronized
  subst hsz
  have hD := hD0.self (sz := s.heap.size)
  have hA : ∀ q : Nat, s.heap.size ≤ q → va_A (w0_X0_countHolding cA a0 a1 a2 a3 t_holding) s.heap.size q := fun q h => Or.inr h
  have hS : va_S (va_A (w0_X0_countHolding cA a0 a1 a2 a3 t_holding) s.heap.size) s.heap s.heap [] := va_S.rf
  generalize va_A (w0_X0_countHolding cA a0 a1 a2 a3 t_holding) s.heap.size = A at hA hD hS ⊢
  obtain ⟨Q, hQ⟩ : ∃ Q : State → Prop, Q = MQ below (va_Qi (fun (r : Int32) (u : Unit) => (r, u) = out) (pst0 D cA A (w1_X0_countHolding cA a0 a1 a2 a3 t_holding)) A) args s 0 0 A := ⟨_, rfl⟩
  refine (?_ : W p l e rm_X0_countHolding s m args below meth c s.heap [] 0 0 (MQ below (va_Qi (fun (r : Int32) (u : Unit) => (r, u) = out) (pst0 D cA A (w1_X0_countHolding cA a0 a1 a2 a3 t_holding)) A) args s 0 0 A) (entryFrame m args 3))
  rw [← hQ]
  have hP : va_P D CL [(a0, e_X0 a1 a2 a3), (a1, eI cA 8 t_holding)] s.heap := hP
  have hD : va_D A [(a0, e_X0 a1 a2 a3), (a1, eI cA 8 t_holding)] := hD
  have B_23 : ∀ (k_4 : (Int32 × Int32) → Option (Int32 × Unit)) (HK_4 : ∀ (x : Int32 × Int32) (H : Heap) (locs : List Loc) (ls : Array Slot), k_4 x = some out → va_P D CL [(a0, e_X0 a1 a2 a3), (a1, eI cA 8 t_holding)] H → va_D A [(a0, e_X0 a1 a2 a3), (a1, eI cA 8 t_holding)] → va_S A s.heap H locs → lv_has ls 3 [(0, .ref a0), (1, .int x.1), (2, .int x.2)] → W p l e rm_X0_countHolding s m args below meth c H locs 0 0 Q (F0 m 4 ls [])) (l1 : Int32) (l2 : Int32) (H : Heap) (locs : List Loc) (ls : Array Slot), b_X0_countHolding_23 fu t_holding k_4 l1 l2 = some out → va_P D CL [(a0, e_X0 a1 a2 a3), (a1, eI cA 8 t_holding)] H → va_D A [(a0, e_X0 a1 a2 a3), (a1, eI cA 8 t_holding)] → va_S A s.heap H locs → lv_has ls 3 [(0, .ref a0), (1, .int l1), (2, .int l2)] → W p l e rm_X0_countHolding s m args below meth c H locs 0 0 Q (F0 m 23 ls []) := by
    intro k_4 HK_4 l1 l2 H locs ls hm hP hD hS hl
    unfold b_X0_countHolding_23 at hm
    refine lv_iinc (v := (l2 + (1 : Int32))) (lv' := [(2, .int (l2 + (1 : Int32))), (0, .ref a0), (1, .int l1)]) hx hb dX0_countHolding_23 hl (k := 2) rfl rfl (by decide) rfl (fun ls hl => ?_)
    refine lv_goto (tgt := 4) hx hb dX0_countHolding_26 (by decide) ?_
    exact HK_4 _ _ _ _ hm hP hD hS (lv_sub hl [1, 2, 0] rfl)
  have B_4 : ∀ (n : Nat) (x : Int32 × Int32) (H : Heap) (locs : List Loc) (ls : Array Slot), lfix (b_X0_countHolding_4 fu t_holding) n x = some out → va_P D CL [(a0, e_X0 a1 a2 a3), (a1, eI cA 8 t_holding)] H → va_D A [(a0, e_X0 a1 a2 a3), (a1, eI cA 8 t_holding)] → va_S A s.heap H locs → lv_has ls 3 [(0, .ref a0), (1, .int x.1), (2, .int x.2)] → W p l e rm_X0_countHolding s m args below meth c H locs 0 0 Q (F0 m 4 ls []) := by
    intro  n
    induction n with
    | zero => intro x H locs ls hm; cases (show none = some out from hm)
    | succ n HK_4 =>
      intro x H locs ls hm hP hD hS hl
      replace hm : b_X0_countHolding_4 fu t_holding (lfix (b_X0_countHolding_4 fu t_holding) n) x = some out := hm
      unfold b_X0_countHolding_4 at hm
      refine lv_iload_n hx hb dX0_countHolding_4 rfl (lv_at hl 2 rfl) ?_
      refine lv_bipush (v := (8 : Int32)) hx hb dX0_countHolding_5 (by decide) ?_
      refine lv_icmp_ge (tgt := 29) hx hb dX0_countHolding_7 (by decide) (fun c1 => ?_) (fun c1 => ?_)
      · have hm := it_t c1 hm
        refine lv_iload_n hx hb dX0_countHolding_29 rfl (lv_at hl 1 rfl) ?_
        rw [hQ]
        exact W.iret (v := x.1) hx hb hr (fun t9 ht hW => ⟨⟨x.1, (), rfl, (Option.some.inj hm), by rw [ht]; exact hP, va_K.moved hW.alike hK, hD⟩, hS.F ht⟩) hS.2.2 dX0_countHolding_30
      · have hm := it_f c1 hm
        refine lv_aload_n hx hb dX0_countHolding_10 rfl (lv_at hl 0 rfl) ?_
        refine va_get (D := D) (ci := 0) (v := .ref a1) (C := RX0) (T := TX0) (N := 3) hx hb htg inX0 hown hK hP 0 rfl rfl 0 (by decide) (htg _ q_1_98) (fun _ h9 => h9) rfl dX0_countHolding_11 ?_
        refine lv_iload_n hx hb dX0_countHolding_14 rfl (lv_at hl 2 rfl) ?_
        obtain ⟨hi2, hm⟩ := gd_s hm
        refine va_iald hx hb hK hP 1 0 rfl rfl hi2 dX0_countHolding_15 ?_
        refine lv_iconst (v := (-1 : Int32)) hx hb dX0_countHolding_16 (by decide) ?_
        refine lv_icmp_eq (tgt := 23) hx hb dX0_countHolding_17 (by decide) (fun c3 => ?_) (fun c3 => ?_)
        · have hm := it_t c3 hm
          exact B_23 _ HK_4 _ _ _ _ _ hm hP hD hS (lv_sub hl [0, 1, 2] rfl)
        · have hm := it_f c3 hm
          refine lv_iinc (v := (x.1 + (1 : Int32))) (lv' := [(1, .int (x.1 + (1 : Int32))), (0, .ref a0), (2, .int x.2)]) hx hb dX0_countHolding_20 hl (k := 1) rfl rfl (by decide) rfl (fun ls hl => ?_)
          exact B_23 _ HK_4 _ _ _ _ _ hm hP hD hS (lv_sub hl [1, 0, 2] rfl)
  unfold m_X0_countHolding at hm
  subst hargs
  have hl := lv_entry ([.ref a0]) (n := 3) (Nat.le_of_ble_eq_true rfl)
  rw [lg_entry_eq]
  generalize (lg_sl ([.ref a0]) ++ List.replicate (3 - (lg_sl ([.ref a0])).length) Slot.unset).toArray = ls at hl ⊢
  have hl : lv_has ls 3 [(0, .ref a0)] := hl
  refine lv_iconst (v := (0 : Int32)) hx hb dX0_countHolding_0 (by decide) ?_
  refine lv_istore_n (lv' := [(1, .int (0 : Int32)), (0, .ref a0)]) hx hb dX0_countHolding_1 rfl hl (by decide) rfl (fun ls hl => ?_)
  refine lv_iconst (v := (0 : Int32)) hx hb dX0_countHolding_2 (by decide) ?_
  refine lv_istore_n (lv' := [(2, .int (0 : Int32)), (1, .int (0 : Int32)), (0, .ref a0)]) hx hb dX0_countHolding_3 rfl hl (by decide) rfl (fun ls hl => ?_)
  exact B_4 fu _ _ _ _ hm hP hD hS (lv_sub hl [2, 1, 0] rfl)
