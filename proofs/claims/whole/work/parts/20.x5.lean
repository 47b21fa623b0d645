def b_X5_refuse_24 (fu : Nat) (t : Nat → Int32) (l1 : Int32) (t_refusals : Nat → Int32) : Option (Int32 × (Nat → Int32)) :=
  some (l1, t_refusals)
def m_X5_refuse (fu : Nat) (t : Nat → Int32) (t_refusals : Nat → Int32) (l1 : Int32) : Option (Int32 × (Nat → Int32)) :=
  (m_X5_isWithin fu ((-2 : Int32) - l1) (0 : Int32) (4 : Int32)).bind fun o1 =>
  (if o1.1 = 0 then
    b_X5_refuse_24 fu t l1 t_refusals
  else
    gd (inb ((-2 : Int32) - l1) 5) (
    gd (inb ((-2 : Int32) - l1) 5) (
    b_X5_refuse_24 fu t l1 (upd t_refusals ((-2 : Int32) - l1).toNatClampNeg ((t_refusals ((-2 : Int32) - l1).toNatClampNeg) + (1 : Int32))))))
abbrev rm_X5_refuse : Room := ({ frames := 1, cells := 0, slots := 0, locals := 22 } : Room)
abbrev w0_X5_refuse (cA : Nat → ClassId) (ad : Nat → Nat) (t : Nat → Int32) (t_refusals : Nat → Int32) : va_W := [((ad 0), e_X5 ad t), ((ad 19), eI cA 5 t_refusals)]
abbrev w1_X5_refuse (cA : Nat → ClassId) (ad : Nat → Nat) (t : Nat → Int32) (u : (Nat → Int32)) : va_W := [((ad 0), e_X5 ad t), ((ad 19), eI cA 5 u)]
theorem hd_X5_refuse : yX5_refuse.cls = RX5 ∧ yX5_refuse.cls ≠ "java/lang/invoke/MethodHandle" ∧ yX5_refuse.cls ≠ "java/lang/invoke/VarHandle" ∧ (parseMethodDescriptor yX5_refuse.desc).map (fun d => d.parameters.length) = some 1 := by decide +kernel
set_option maxHeartbeats 40000000 in
set_option maxRecDepth 100000 in
theorem c_X5_refuse (l : Launch) (D : va_G) (cA : Nat → ClassId) (sz : Nat) (fu : Nat) (ad : Nat → Nat) (t : Nat → Int32) (t_refusals : Nat → Int32) (l1 : Int32) (out : Int32 × (Nat → Int32)) (hm : m_X5_refuse fu t t_refusals l1 = some out) : MI l yX5_refuse (wU yX5_refuse cX5_refuse 3 ((Option.some Jvm.ClassFile.FieldType.int))) rm_X5_refuse D cA sz [.ref (ad 0), .int l1] (w0_X5_refuse cA ad t t_refusals) out (w1_X5_refuse cA ad t) := by
  refine Met.ofW (cc := cX5_refuse) (maxL := 3) (ret := (Option.some Jvm.ClassFile.FieldType.int)) (by decide) rfl ?_
  intro p e s m args below meth c s₁ B hml hv
  obtain ⟨hargs, hsz, hP, hK, hD0, hN⟩ := hv
  have hx := B.exec
  have hb := B.bytes
  have hr := B.returns
  have htg : ∀ w ∈ gw, w.before args s = true := fun w h => atoms_spec (ws := wU yX5_refuse cX5_refuse 3 ((Option.some Jvm.ClassFile.FieldType.int))) B.pre w (List.mem_cons_of_mem _ h)
  have hown : s.vm.findClass RX5 = some m.cls := findClass_of_methodNamed B.named
  have hlocks := B.notSynchronized
  subst hsz
  have hD := hD0.self (sz := s.heap.size)
  have hA : ∀ q : Nat, s.heap.size ≤ q → va_A (w0_X5_refuse cA ad t t_refusals) s.heap.size q := fun q h => Or.inr h
  have hS : va_S (va_A (w0_X5_refuse cA ad t t_refusals) s.heap.size) s.heap s.heap [] := va_S.rf
  generalize va_A (w0_X5_refuse cA ad t t_refusals) s.heap.size = A at hA hD hS ⊢
  obtain ⟨Q, hQ⟩ : ∃ Q : State → Prop, Q = MQ below (va_Qi (fun (r : Int32) (u : (Nat → Int32)) => (r, u) = out) (pst0 D cA A (w1_X5_refuse cA ad t)) A) args s 0 0 A := ⟨_, rfl⟩
  refine (?_ : W p l e rm_X5_refuse s m args below meth c s.heap [] 0 0 (MQ below (va_Qi (fun (r : Int32) (u : (Nat → Int32)) => (r, u) = out) (pst0 D cA A (w1_X5_refuse cA ad t)) A) args s 0 0 A) (entryFrame m args 3))
  rw [← hQ]
  have hP : va_P D CL [((ad 0), e_X5 ad t), ((ad 19), eI cA 5 t_refusals)] s.heap := hP
  have hD : va_D A [((ad 0), e_X5 ad t), ((ad 19), eI cA 5 t_refusals)] := hD
  have B_24 : ∀ (l1 : Int32) (t_refusals : Nat → Int32) (H : Heap) (locs : List Loc) (ls : Array Slot), b_X5_refuse_24 fu t l1 t_refusals = some out → va_P D CL [((ad 0), e_X5 ad t), ((ad 19), eI cA 5 t_refusals)] H → va_D A [((ad 0), e_X5 ad t), ((ad 19), eI cA 5 t_refusals)] → va_S A s.heap H locs → lv_has ls 3 [(0, .ref (ad 0)), (1, .int l1)] → W p l e rm_X5_refuse s m args below meth c H locs 0 0 Q (F0 m 24 ls []) := by
    intro  l1 t_refusals H locs ls hm hP hD hS hl
    unfold b_X5_refuse_24 at hm
    refine lv_iload_n hx hb dX5_refuse_24 rfl (lv_at hl 1 rfl) ?_
    rw [hQ]
    exact W.iret (v := l1) hx hb hr (fun t9 ht hW => ⟨⟨l1, t_refusals, rfl, (Option.some.inj hm), by rw [ht]; exact hP, va_K.moved hW.alike hK, hD⟩, hS.F ht⟩) hS.2.2 dX5_refuse_25
  unfold m_X5_refuse at hm
  subst hargs
  have hl := lv_entry ([.ref (ad 0), .int l1]) (n := 3) (Nat.le_of_ble_eq_true rfl)
  rw [lg_entry_eq]
  generalize (lg_sl ([.ref (ad 0), .int l1]) ++ List.replicate (3 - (lg_sl ([.ref (ad 0), .int l1])).length) Slot.unset).toArray = ls at hl ⊢
  have hl : lv_has ls 3 [(0, .ref (ad 0)), (1, .int l1)] := hl
  refine lv_bipush (v := (-2 : Int32)) hx hb dX5_refuse_0 (by decide) ?_
  refine lv_iload_n hx hb dX5_refuse_2 rfl (lv_at hl 1 rfl) ?_
  refine lv_isub hx hb dX5_refuse_3 ?_
  refine lv_istore_n (lv' := [(2, .int ((-2 : Int32) - l1)), (0, .ref (ad 0)), (1, .int l1)]) hx hb dX5_refuse_4 rfl hl (by decide) rfl (fun ls hl => ?_)
  refine lv_iload_n hx hb dX5_refuse_5 rfl (lv_at hl 0 rfl) ?_
  refine lv_iconst (v := (0 : Int32)) hx hb dX5_refuse_6 (by decide) ?_
  refine lv_iconst (v := (4 : Int32)) hx hb dX5_refuse_7 (by decide) ?_
  obtain ⟨o1, ho2, hm⟩ := bd_s hm
  refine xr_i (wr := [((ad 0), e_X5 ad t), ((ad 19), eI cA 5 t_refusals)]) (wn := [((ad 0), e_X5 ad t), ((ad 19), eI cA 5 t_refusals)]) (va_runS (As := [.int ((-2 : Int32) - l1), .int (0 : Int32), .int (4 : Int32)]) (rest := []) ⟨hx, hb, hml, hown, htg⟩ (c_X5_isWithin l D cA _ fu ((-2 : Int32) - l1) (0 : Int32) (4 : Int32) o1 ho2) (cwS 3 htg (gS q_2_7 q_2_8 q_1_1 q_2_9) rfl rfl rfl hd_X5_isWithin ⟨Nat.le_of_ble_eq_true rfl, Nat.le_of_ble_eq_true rfl⟩) (xpS hN hK hP hD [] rfl (by decide)) rfl rfl hl.1 rfl (lv_room (Nat.le_of_ble_eq_true rfl)) dX5_refuse_8 ⟨Nat.zero_le _, Nat.zero_le _⟩) hP hD hS hA [] [0, 1] [0, 1] rfl rfl (by decide) (by decide) rfl (by decide) (fun H locs hP hD hS => ?_)
  refine lv_if_eq (tgt := 24) hx hb dX5_refuse_11 (by decide) (fun c3 => ?_) (fun c3 => ?_)
  · have hm := it_t c3 hm
    exact B_24 _ _ _ _ _ hm hP hD hS (lv_sub hl [1, 2] rfl)
  · have hm := it_f c3 hm
    refine lv_aload_n hx hb dX5_refuse_14 rfl (lv_at hl 1 rfl) ?_
    refine va_get (D := D) (ci := 5) (v := .ref (ad 19)) (C := RX5) (T := TX5) (N := 17) hx hb htg inX5 hown hK hP 0 rfl rfl 6 (by decide) (htg _ q_1_194) (fun _ h9 => h9) rfl dX5_refuse_15 ?_
    refine lv_iload_n hx hb dX5_refuse_18 rfl (lv_at hl 0 rfl) ?_
    refine lv_dup2_11 hx hb dX5_refuse_19 rfl rfl ?_
    obtain ⟨hi4, hm⟩ := gd_s hm
    refine va_iald hx hb hK hP 1 0 rfl rfl hi4 dX5_refuse_20 ?_
    refine lv_iconst (v := (1 : Int32)) hx hb dX5_refuse_21 (by decide) ?_
    refine lv_iadd hx hb dX5_refuse_22 ?_
    obtain ⟨hi5, hm⟩ := gd_s hm
    refine va_iast hx hb hK hP hD hS 1 0 rfl rfl hi5 dX5_refuse_23 (fun H locs (hP : va_P D CL [((ad 0), e_X5 ad t), ((ad 19), eI cA 5 (upd t_refusals ((-2 : Int32) - l1).toNatClampNeg ((t_refusals ((-2 : Int32) - l1).toNatClampNeg) + (1 : Int32))))] H) (hD : va_D A [((ad 0), e_X5 ad t), ((ad 19), eI cA 5 (upd t_refusals ((-2 : Int32) - l1).toNatClampNeg ((t_refusals ((-2 : Int32) - l1).toNatClampNeg) + (1 : Int32))))]) hS => ?_)
    exact B_24 _ _ _ _ _ hm hP hD hS (lv_sub hl [1, 2] rfl)
def b_X5_row_26 (fu : Nat) (t : Nat → Int32) (t_shelves_holding : Nat → Int32) (t_shelves_sizes : Nat → Int32) (t_shelves_elements : Nat → Int64) (t_refusals : Nat → Int32) : Option (Int32 × ((Nat → Int32) × (Nat → Int32) × (Nat → Int64) × (Nat → Int32))) :=
  (m_X5_refuse fu t t_refusals (-2 : Int32)).bind fun o1 =>
    some (o1.1, (t_shelves_holding, t_shelves_sizes, t_shelves_elements, o1.2))
def m_X5_row (fu : Nat) (t : Nat → Int32) (t_shelves_holding : Nat → Int32) (t_shelves_sizes : Nat → Int32) (t_shelves_elements : Nat → Int64) (t_refusals : Nat → Int32) (l1 : Int32) (l2 : Int32) (l3 : Int32) : Option (Int32 × ((Nat → Int32) × (Nat → Int32) × (Nat → Int64) × (Nat → Int32))) :=
  (m_X5_isShelf fu l1).bind fun o3 =>
  (if o3.1 = 0 then
    b_X5_row_26 fu t t_shelves_holding t_shelves_sizes t_shelves_elements t_refusals
  else
    (m_X5_isWithin fu l2 (0 : Int32) (4 : Int32)).bind fun o6 =>
    (if o6.1 = 0 then
      b_X5_row_26 fu t t_shelves_holding t_shelves_sizes t_shelves_elements t_refusals
    else
      (m_X5_isWithin fu l3 (0 : Int32) (40 : Int32)).bind fun o9 =>
      (if o9.1 = 0 then
        b_X5_row_26 fu t t_shelves_holding t_shelves_sizes t_shelves_elements t_refusals
      else
        (m_X0_putRow fu t_shelves_holding t_shelves_sizes t_shelves_elements l1 l2 l3).bind fun o12 =>
        some ((1 : Int32), (o12.1, o12.2.1, o12.2.2, t_refusals)))))
abbrev rm_X5_row : Room := ({ frames := 3, cells := 0, slots := 0, locals := 70 } : Room)
abbrev w0_X5_row (cA : Nat → ClassId) (ad : Nat → Nat) (t : Nat → Int32) (t_shelves_holding : Nat → Int32) (t_shelves_sizes : Nat → Int32) (t_shelves_elements : Nat → Int64) (t_refusals : Nat → Int32) : va_W := [((ad 0), e_X5 ad t), ((ad 13), e_X0 (ad 14) (ad 15) (ad 16)), ((ad 14), eI cA 8 t_shelves_holding), ((ad 15), eI cA 8 t_shelves_sizes), ((ad 16), eJ cA 320 t_shelves_elements), ((ad 19), eI cA 5 t_refusals)]
abbrev w1_X5_row (cA : Nat → ClassId) (ad : Nat → Nat) (t : Nat → Int32) (u : (Nat → Int32) × (Nat → Int32) × (Nat → Int64) × (Nat → Int32)) : va_W := [((ad 0), e_X5 ad t), ((ad 13), e_X0 (ad 14) (ad 15) (ad 16)), ((ad 14), eI cA 8 u.1), ((ad 15), eI cA 8 u.2.1), ((ad 16), eJ cA 320 u.2.2.1), ((ad 19), eI cA 5 u.2.2.2)]
theorem hd_X5_row : yX5_row.cls = RX5 ∧ yX5_row.cls ≠ "java/lang/invoke/MethodHandle" ∧ yX5_row.cls ≠ "java/lang/invoke/VarHandle" ∧ (parseMethodDescriptor yX5_row.desc).map (fun d => d.parameters.length) = some 3 := by decide +kernel
set_option maxHeartbeats 40000000 in
set_option maxRecDepth 100000 in
theorem c_X5_row (l : Launch) (D : va_G) (cA : Nat → ClassId) (sz : Nat) (fu : Nat) (ad : Nat → Nat) (t : Nat → Int32) (t_shelves_holding : Nat → Int32) (t_shelves_sizes : Nat → Int32) (t_shelves_elements : Nat → Int64) (t_refusals : Nat → Int32) (l1 : Int32) (l2 : Int32) (l3 : Int32) (out : Int32 × ((Nat → Int32) × (Nat → Int32) × (Nat → Int64) × (Nat → Int32))) (hm : m_X5_row fu t t_shelves_holding t_shelves_sizes t_shelves_elements t_refusals l1 l2 l3 = some out) : MI l yX5_row (wU yX5_row cX5_row 4 ((Option.some Jvm.ClassFile.FieldType.int))) rm_X5_row D cA sz [.ref (ad 0), .int l1, .int l2, .int l3] (w0_X5_row cA ad t t_shelves_holding t_shelves_sizes t_shelves_elements t_refusals) out (w1_X5_row cA ad t) := by
  refine Met.ofW (cc := cX5_row) (maxL := 4) (ret := (Option.some Jvm.ClassFile.FieldType.int)) (by decide) rfl ?_
  intro p e s m args below meth c s₁ B hml hv
  obtain ⟨hargs, hsz, hP, hK, hD0, hN⟩ := hv
  have hx := B.exec
  have hb := B.bytes
  have hr := B.returns
  have htg : ∀ w ∈ gw, w.before args s = true := fun w h => atoms_spec (ws := wU yX5_row cX5_row 4 ((Option.some Jvm.ClassFile.FieldType.int))) B.pre w (List.mem_cons_of_mem _ h)
  have hown : s.vm.findClass RX5 = some m.cls := findClass_of_methodNamed B.named
  have hlocks := B.notSynchronized
  subst hsz
  have hD := hD0.self (sz := s.heap.size)
  have hA : ∀ q : Nat, s.heap.size ≤ q → va_A (w0_X5_row cA ad t t_shelves_holding t_shelves_sizes t_shelves_elements t_refusals) s.heap.size q := fun q h => Or.inr h
  have hS : va_S (va_A (w0_X5_row cA ad t t_shelves_holding t_shelves_sizes t_shelves_elements t_refusals) s.heap.size) s.heap s.heap [] := va_S.rf
  generalize va_A (w0_X5_row cA ad t t_shelves_holding t_shelves_sizes t_shelves_elements t_refusals) s.heap.size = A at hA hD hS ⊢
  obtain ⟨Q, hQ⟩ : ∃ Q : State → Prop, Q = MQ below (va_Qi (fun (r : Int32) (u : (Nat → Int32) × (Nat → Int32) × (Nat → Int64) × (Nat → Int32)) => (r, u) = out) (pst0 D cA A (w1_X5_row cA ad t)) A) args s 0 0 A := ⟨_, rfl⟩
  refine (?_ : W p l e rm_X5_row s m args below meth c s.heap [] 0 0 (MQ below (va_Qi (fun (r : Int32) (u : (Nat → Int32) × (Nat → Int32) × (Nat → Int64) × (Nat → Int32)) => (r, u) = out) (pst0 D cA A (w1_X5_row cA ad t)) A) args s 0 0 A) (entryFrame m args 4))
  rw [← hQ]
  have hP : va_P D CL [((ad 0), e_X5 ad t), ((ad 13), e_X0 (ad 14) (ad 15) (ad 16)), ((ad 14), eI cA 8 t_shelves_holding), ((ad 15), eI cA 8 t_shelves_sizes), ((ad 16), eJ cA 320 t_shelves_elements), ((ad 19), eI cA 5 t_refusals)] s.heap := hP
  have hD : va_D A [((ad 0), e_X5 ad t), ((ad 13), e_X0 (ad 14) (ad 15) (ad 16)), ((ad 14), eI cA 8 t_shelves_holding), ((ad 15), eI cA 8 t_shelves_sizes), ((ad 16), eJ cA 320 t_shelves_elements), ((ad 19), eI cA 5 t_refusals)] := hD
  have B_26 : ∀ (t_shelves_holding : Nat → Int32) (t_shelves_sizes : Nat → Int32) (t_shelves_elements : Nat → Int64) (t_refusals : Nat → Int32) (H : Heap) (locs : List Loc) (ls : Array Slot), b_X5_row_26 fu t t_shelves_holding t_shelves_sizes t_shelves_elements t_refusals = some out → va_P D CL [((ad 0), e_X5 ad t), ((ad 13), e_X0 (ad 14) (ad 15) (ad 16)), ((ad 14), eI cA 8 t_shelves_holding), ((ad 15), eI cA 8 t_shelves_sizes), ((ad 16), eJ cA 320 t_shelves_elements), ((ad 19), eI cA 5 t_refusals)] H → va_D A [((ad 0), e_X5 ad t), ((ad 13), e_X0 (ad 14) (ad 15) (ad 16)), ((ad 14), eI cA 8 t_shelves_holding), ((ad 15), eI cA 8 t_shelves_sizes), ((ad 16), eJ cA 320 t_shelves_elements), ((ad 19), eI cA 5 t_refusals)] → va_S A s.heap H locs → lv_has ls 4 [(0, .ref (ad 0))] → W p l e rm_X5_row s m args below meth c H locs 0 0 Q (F0 m 26 ls []) := by
    intro  t_shelves_holding t_shelves_sizes t_shelves_elements t_refusals H locs ls hm hP hD hS hl
    unfold b_X5_row_26 at hm
    refine lv_aload_n hx hb dX5_row_26 rfl (lv_at hl 0 rfl) ?_
    refine lv_bipush (v := (-2 : Int32)) hx hb dX5_row_27 (by decide) ?_
    obtain ⟨o1, ho2, hm⟩ := bd_s hm
    refine xr_i (wr := [((ad 13), e_X0 (ad 14) (ad 15) (ad 16)), ((ad 14), eI cA 8 t_shelves_holding), ((ad 15), eI cA 8 t_shelves_sizes), ((ad 16), eJ cA 320 t_shelves_elements)]) (wn := [((ad 0), e_X5 ad t), ((ad 13), e_X0 (ad 14) (ad 15) (ad 16)), ((ad 14), eI cA 8 t_shelves_holding), ((ad 15), eI cA 8 t_shelves_sizes), ((ad 16), eJ cA 320 t_shelves_elements), ((ad 19), eI cA 5 o1.2)]) (va_runV (As := [.int (-2 : Int32)]) (rest := []) ⟨hx, hb, hml, hown, htg⟩ (c_X5_refuse l D cA _ fu ad t t_refusals (-2 : Int32) o1 ho2) (cwV 1 htg (gV q_2_10 q_2_12 q_p1_0 q_1_1 q_2_13) rfl rfl rfl hd_X5_refuse ⟨Nat.le_of_ble_eq_true rfl, Nat.le_of_ble_eq_true rfl⟩) (xpV hN hK hP hD [0, 5] rfl (by decide) rfl rfl) rfl rfl hl.1 rfl (lv_room (Nat.le_of_ble_eq_true rfl)) dX5_row_29 ⟨Nat.zero_le _, Nat.zero_le _⟩) hP hD hS hA [0, 5] [1, 2, 3, 4] [4, 0, 1, 2, 3, 5] rfl rfl (by decide) (by decide) rfl (by decide) (fun H locs hP hD hS => ?_)
    rw [hQ]
    exact W.iret (v := o1.1) hx hb hr (fun t9 ht hW => ⟨⟨o1.1, (t_shelves_holding, t_shelves_sizes, t_shelves_elements, o1.2), rfl, (Option.some.inj hm), by rw [ht]; exact hP, va_K.moved hW.alike hK, hD⟩, hS.F ht⟩) hS.2.2 dX5_row_32
  unfold m_X5_row at hm
  subst hargs
  have hl := lv_entry ([.ref (ad 0), .int l1, .int l2, .int l3]) (n := 4) (Nat.le_of_ble_eq_true rfl)
  rw [lg_entry_eq]
  generalize (lg_sl ([.ref (ad 0), .int l1, .int l2, .int l3]) ++ List.replicate (4 - (lg_sl ([.ref (ad 0), .int l1, .int l2, .int l3])).length) Slot.unset).toArray = ls at hl ⊢
  have hl : lv_has ls 4 [(0, .ref (ad 0)), (1, .int l1), (2, .int l2), (3, .int l3)] := hl
  refine lv_iload_n hx hb dX5_row_0 rfl (lv_at hl 1 rfl) ?_
  obtain ⟨o3, ho4, hm⟩ := bd_s hm
  refine xr_i (wr := [((ad 0), e_X5 ad t), ((ad 13), e_X0 (ad 14) (ad 15) (ad 16)), ((ad 14), eI cA 8 t_shelves_holding), ((ad 15), eI cA 8 t_shelves_sizes), ((ad 16), eJ cA 320 t_shelves_elements), ((ad 19), eI cA 5 t_refusals)]) (wn := [((ad 0), e_X5 ad t), ((ad 13), e_X0 (ad 14) (ad 15) (ad 16)), ((ad 14), eI cA 8 t_shelves_holding), ((ad 15), eI cA 8 t_shelves_sizes), ((ad 16), eJ cA 320 t_shelves_elements), ((ad 19), eI cA 5 t_refusals)]) (va_runS (As := [.int l1]) (rest := []) ⟨hx, hb, hml, hown, htg⟩ (c_X5_isShelf l D cA _ fu l1 o3 ho4) (cwS 1 htg (gS q_2_4 q_2_5 q_1_1 q_2_6) rfl rfl rfl hd_X5_isShelf ⟨Nat.le_of_ble_eq_true rfl, Nat.le_of_ble_eq_true rfl⟩) (xpS hN hK hP hD [] rfl (by decide)) rfl rfl hl.1 rfl (lv_room (Nat.le_of_ble_eq_true rfl)) dX5_row_1 ⟨Nat.zero_le _, Nat.zero_le _⟩) hP hD hS hA [] [0, 1, 2, 3, 4, 5] [0, 1, 2, 3, 4, 5] rfl rfl (by decide) (by decide) rfl (by decide) (fun H locs hP hD hS => ?_)
  refine lv_if_eq (tgt := 26) hx hb dX5_row_4 (by decide) (fun c5 => ?_) (fun c5 => ?_)
  · have hm := it_t c5 hm
    exact B_26 _ _ _ _ _ _ _ hm hP hD hS (lv_sub hl [0] rfl)
  · have hm := it_f c5 hm
    refine lv_iload_n hx hb dX5_row_7 rfl (lv_at hl 2 rfl) ?_
    refine lv_iconst (v := (0 : Int32)) hx hb dX5_row_8 (by decide) ?_
    refine lv_iconst (v := (4 : Int32)) hx hb dX5_row_9 (by decide) ?_
    obtain ⟨o6, ho7, hm⟩ := bd_s hm
    refine xr_i (wr := [((ad 0), e_X5 ad t), ((ad 13), e_X0 (ad 14) (ad 15) (ad 16)), ((ad 14), eI cA 8 t_shelves_holding), ((ad 15), eI cA 8 t_shelves_sizes), ((ad 16), eJ cA 320 t_shelves_elements), ((ad 19), eI cA 5 t_refusals)]) (wn := [((ad 0), e_X5 ad t), ((ad 13), e_X0 (ad 14) (ad 15) (ad 16)), ((ad 14), eI cA 8 t_shelves_holding), ((ad 15), eI cA 8 t_shelves_sizes), ((ad 16), eJ cA 320 t_shelves_elements), ((ad 19), eI cA 5 t_refusals)]) (va_runS (As := [.int l2, .int (0 : Int32), .int (4 : Int32)]) (rest := []) ⟨hx, hb, hml, hown, htg⟩ (c_X5_isWithin l D cA _ fu l2 (0 : Int32) (4 : Int32) o6 ho7) (cwS 3 htg (gS q_2_7 q_2_8 q_1_1 q_2_9) rfl rfl rfl hd_X5_isWithin ⟨Nat.le_of_ble_eq_true rfl, Nat.le_of_ble_eq_true rfl⟩) (xpS hN hK hP hD [] rfl (by decide)) rfl rfl hl.1 rfl (lv_room (Nat.le_of_ble_eq_true rfl)) dX5_row_10 ⟨Nat.zero_le _, Nat.zero_le _⟩) hP hD hS hA [] [0, 1, 2, 3, 4, 5] [0, 1, 2, 3, 4, 5] rfl rfl (by decide) (by decide) rfl (by decide) (fun H locs hP hD hS => ?_)
    refine lv_if_eq (tgt := 26) hx hb dX5_row_13 (by decide) (fun c8 => ?_) (fun c8 => ?_)
    · have hm := it_t c8 hm
      exact B_26 _ _ _ _ _ _ _ hm hP hD hS (lv_sub hl [0] rfl)
    · have hm := it_f c8 hm
      refine lv_iload_n hx hb dX5_row_16 rfl (lv_at hl 3 rfl) ?_
      refine lv_iconst (v := (0 : Int32)) hx hb dX5_row_17 (by decide) ?_
      refine lv_bipush (v := (40 : Int32)) hx hb dX5_row_18 (by decide) ?_
      obtain ⟨o9, ho10, hm⟩ := bd_s hm
      refine xr_i (wr := [((ad 0), e_X5 ad t), ((ad 13), e_X0 (ad 14) (ad 15) (ad 16)), ((ad 14), eI cA 8 t_shelves_holding), ((ad 15), eI cA 8 t_shelves_sizes), ((ad 16), eJ cA 320 t_shelves_elements), ((ad 19), eI cA 5 t_refusals)]) (wn := [((ad 0), e_X5 ad t), ((ad 13), e_X0 (ad 14) (ad 15) (ad 16)), ((ad 14), eI cA 8 t_shelves_holding), ((ad 15), eI cA 8 t_shelves_sizes), ((ad 16), eJ cA 320 t_shelves_elements), ((ad 19), eI cA 5 t_refusals)]) (va_runS (As := [.int l3, .int (0 : Int32), .int (40 : Int32)]) (rest := []) ⟨hx, hb, hml, hown, htg⟩ (c_X5_isWithin l D cA _ fu l3 (0 : Int32) (40 : Int32) o9 ho10) (cwS 3 htg (gS q_2_7 q_2_8 q_1_1 q_2_9) rfl rfl rfl hd_X5_isWithin ⟨Nat.le_of_ble_eq_true rfl, Nat.le_of_ble_eq_true rfl⟩) (xpS hN hK hP hD [] rfl (by decide)) rfl rfl hl.1 rfl (lv_room (Nat.le_of_ble_eq_true rfl)) dX5_row_20 ⟨Nat.zero_le _, Nat.zero_le _⟩) hP hD hS hA [] [0, 1, 2, 3, 4, 5] [0, 1, 2, 3, 4, 5] rfl rfl (by decide) (by decide) rfl (by decide) (fun H locs hP hD hS => ?_)
      refine lv_if_ne (tgt := 33) hx hb dX5_row_23 (by decide) (fun c11 => ?_) (fun c11 => ?_)
      · have hm := it_f c11 hm
        refine lv_aload_n hx hb dX5_row_33 rfl (lv_at hl 0 rfl) ?_
        refine va_get (D := D) (ci := 5) (v := .ref (ad 13)) (C := RX5) (T := TX5) (N := 17) hx hb htg inX5 hown hK hP 0 rfl rfl 4 (by decide) (htg _ q_1_192) (fun _ h9 => h9) rfl dX5_row_34 ?_
        refine lv_iload_n hx hb dX5_row_37 rfl (lv_at hl 1 rfl) ?_
        refine lv_iload_n hx hb dX5_row_38 rfl (lv_at hl 2 rfl) ?_
        refine lv_iload_n hx hb dX5_row_39 rfl (lv_at hl 3 rfl) ?_
        obtain ⟨o12, ho13, hm⟩ := bd_s hm
        refine xr_v (wr := [((ad 0), e_X5 ad t), ((ad 19), eI cA 5 t_refusals)]) (wn := [((ad 0), e_X5 ad t), ((ad 13), e_X0 (ad 14) (ad 15) (ad 16)), ((ad 14), eI cA 8 o12.1), ((ad 15), eI cA 8 o12.2.1), ((ad 16), eJ cA 320 o12.2.2), ((ad 19), eI cA 5 t_refusals)]) (va_runVN (As := [.int l1, .int l2, .int l3]) (rest := []) ⟨hx, hb, hml, hown, htg⟩ (c_X0_putRow l D cA _ fu (ad 13) (ad 14) (ad 15) (ad 16) t_shelves_holding t_shelves_sizes t_shelves_elements l1 l2 l3 o12 ho13) ⟨va_cnB 3 htg (gU q_2_17) rfl rfl rfl (hN _ q_2_14) (htg _ q_1_3) hd_X0_putRow.2 ⟨Nat.le_of_ble_eq_true rfl, Nat.le_of_ble_eq_true rfl⟩, htg _ q_2_16, htg _ q_p1_1⟩ (xpV hN hK hP hD [1, 2, 3, 4] rfl (by decide) rfl rfl) rfl rfl hl.1 rfl (lv_room (Nat.le_of_ble_eq_true rfl)) dX5_row_40 ⟨Nat.zero_le _, Nat.zero_le _⟩) hP hD hS hA [1, 2, 3, 4] [0, 5] [0, 2, 3, 4, 5, 1] rfl rfl (by decide) (by decide) rfl (by decide) (fun H locs hP hD hS => ?_)
        refine lv_iconst (v := (1 : Int32)) hx hb dX5_row_43 (by decide) ?_
        rw [hQ]
        exact W.iret (v := (1 : Int32)) hx hb hr (fun t9 ht hW => ⟨⟨(1 : Int32), (o12.1, o12.2.1, o12.2.2, t_refusals), rfl, (Option.some.inj hm), by rw [ht]; exact hP, va_K.moved hW.alike hK, hD⟩, hS.F ht⟩) hS.2.2 dX5_row_44
      · have hm := it_t c11 hm
        exact B_26 _ _ _ _ _ _ _ hm hP hD hS (lv_sub hl [0] rfl)
def m_X5_set (fu : Nat) (t : Nat → Int32) (t_shelves_holding : Nat → Int32) (t_shelves_sizes : Nat → Int32) (t_shelves_elements : Nat → Int64) (t_refusals : Nat → Int32) (l1 : Int32) (l2 : Int32) (l3 : Int64) : Option (Int32 × ((Nat → Int64) × (Nat → Int32))) :=
  (m_X5_isShelf fu l1).bind fun o1 =>
  (if o1.1 = 0 then
    (m_X5_refuse fu t t_refusals (-2 : Int32)).bind fun o21 =>
    some (o21.1, (t_shelves_elements, o21.2))
  else
    (m_X0_hasVoice fu t_shelves_holding l1).bind fun o4 =>
    (if o4.1 = 0 then
      (m_X0_isBare fu t_shelves_holding l1).bind fun o7 =>
      (if o7.1 = 0 then
        (m_X0_hasPlaces fu t_shelves_sizes l1 l2 (1 : Int32)).bind fun o10 =>
        (if o10.1 = 0 then
          (m_X5_refuse fu t t_refusals (-2 : Int32)).bind fun o15 =>
          some (o15.1, (t_shelves_elements, o15.2))
        else
          (m_X0_putElement fu t_shelves_holding t_shelves_sizes t_shelves_elements l1 l2 l3).bind fun o13 =>
          some ((1 : Int32), (o13, t_refusals)))
      else
        (m_X5_refuse fu t t_refusals (-4 : Int32)).bind fun o17 =>
        some (o17.1, (t_shelves_elements, o17.2)))
    else
      (m_X5_refuse fu t t_refusals (-3 : Int32)).bind fun o19 =>
      some (o19.1, (t_shelves_elements, o19.2))))
abbrev rm_X5_set : Room := ({ frames := 4, cells := 0, slots := 0, locals := 89 } : Room)
abbrev w0_X5_set (cA : Nat → ClassId) (ad : Nat → Nat) (t : Nat → Int32) (t_shelves_holding : Nat → Int32) (t_shelves_sizes : Nat → Int32) (t_shelves_elements : Nat → Int64) (t_refusals : Nat → Int32) : va_W := [((ad 0), e_X5 ad t), ((ad 13), e_X0 (ad 14) (ad 15) (ad 16)), ((ad 14), eI cA 8 t_shelves_holding), ((ad 15), eI cA 8 t_shelves_sizes), ((ad 16), eJ cA 320 t_shelves_elements), ((ad 19), eI cA 5 t_refusals)]
abbrev w1_X5_set (cA : Nat → ClassId) (ad : Nat → Nat) (t : Nat → Int32) (t_shelves_holding : Nat → Int32) (t_shelves_sizes : Nat → Int32) (u : (Nat → Int64) × (Nat → Int32)) : va_W := [((ad 0), e_X5 ad t), ((ad 13), e_X0 (ad 14) (ad 15) (ad 16)), ((ad 14), eI cA 8 t_shelves_holding), ((ad 15), eI cA 8 t_shelves_sizes), ((ad 16), eJ cA 320 u.1), ((ad 19), eI cA 5 u.2)]
theorem hd_X5_set : yX5_set.cls = RX5 ∧ yX5_set.cls ≠ "java/lang/invoke/MethodHandle" ∧ yX5_set.cls ≠ "java/lang/invoke/VarHandle" ∧ (parseMethodDescriptor yX5_set.desc).map (fun d => d.parameters.length) = some 3 := by decide +kernel
set_option maxHeartbeats 40000000 in
set_option maxRecDepth 100000 in
theorem c_X5_set (l : Launch) (D : va_G) (cA : Nat → ClassId) (sz : Nat) (fu : Nat) (ad : Nat → Nat) (t : Nat → Int32) (t_shelves_holding : Nat → Int32) (t_shelves_sizes : Nat → Int32) (t_shelves_elements : Nat → Int64) (t_refusals : Nat → Int32) (l1 : Int32) (l2 : Int32) (l3 : Int64) (out : Int32 × ((Nat → Int64) × (Nat → Int32))) (hm : m_X5_set fu t t_shelves_holding t_shelves_sizes t_shelves_elements t_refusals l1 l2 l3 = some out) : MI l yX5_set (wU yX5_set cX5_set 5 ((Option.some Jvm.ClassFile.FieldType.int))) rm_X5_set D cA sz [.ref (ad 0), .int l1, .int l2, .long l3] (w0_X5_set cA ad t t_shelves_holding t_shelves_sizes t_shelves_elements t_refusals) out (w1_X5_set cA ad t t_shelves_holding t_shelves_sizes) := by
  refine Met.ofW (cc := cX5_set) (maxL := 5) (ret := (Option.some Jvm.ClassFile.FieldType.int)) (by decide) rfl ?_
  intro p e s m args below meth c s₁ B hml hv
  obtain ⟨hargs, hsz, hP, hK, hD0, hN⟩ := hv
  have hx := B.exec
  have hb := B.bytes
  have hr := B.returns
  have htg : ∀ w ∈ gw, w.before args s = true := fun w h => atoms_spec (ws := wU yX5_set cX5_set 5 ((Option.some Jvm.ClassFile.FieldType.int))) B.pre w (List.mem_cons_of_mem _ h)
  have hown : s.vm.findClass RX5 = some m.cls := findClass_of_methodNamed B.named
  have hlocks := B.notSynchronized
  subst hsz
  have hD := hD0.self (sz := s.heap.size)
  have hA : ∀ q : Nat, s.heap.size ≤ q → va_A (w0_X5_set cA ad t t_shelves_holding t_shelves_sizes t_shelves_elements t_refusals) s.heap.size q := fun q h => Or.inr h
  have hS : va_S (va_A (w0_X5_set cA ad t t_shelves_holding t_shelves_sizes t_shelves_elements t_refusals) s.heap.size) s.heap s.heap [] := va_S.rf
  generalize va_A (w0_X5_set cA ad t t_shelves_holding t_shelves_sizes t_shelves_elements t_refusals) s.heap.size = A at hA hD hS ⊢
  obtain ⟨Q, hQ⟩ : ∃ Q : State → Prop, Q = MQ below (va_Qi (fun (r : Int32) (u : (Nat → Int64) × (Nat → Int32)) => (r, u) = out) (pst0 D cA A (w1_X5_set cA ad t t_shelves_holding t_shelves_sizes)) A) args s 0 0 A := ⟨_, rfl⟩
  refine (?_ : W p l e rm_X5_set s m args below meth c s.heap [] 0 0 (MQ below (va_Qi (fun (r : Int32) (u : (Nat → Int64) × (Nat → Int32)) => (r, u) = out) (pst0 D cA A (w1_X5_set cA ad t t_shelves_holding t_shelves_sizes)) A) args s 0 0 A) (entryFrame m args 5))
  rw [← hQ]
  have hP : va_P D CL [((ad 0), e_X5 ad t), ((ad 13), e_X0 (ad 14) (ad 15) (ad 16)), ((ad 14), eI cA 8 t_shelves_holding), ((ad 15), eI cA 8 t_shelves_sizes), ((ad 16), eJ cA 320 t_shelves_elements), ((ad 19), eI cA 5 t_refusals)] s.heap := hP
  have hD : va_D A [((ad 0), e_X5 ad t), ((ad 13), e_X0 (ad 14) (ad 15) (ad 16)), ((ad 14), eI cA 8 t_shelves_holding), ((ad 15), eI cA 8 t_shelves_sizes), ((ad 16), eJ cA 320 t_shelves_elements), ((ad 19), eI cA 5 t_refusals)] := hD
  unfold m_X5_set at hm
  subst hargs
  have hl := lv_entry ([.ref (ad 0), .int l1, .int l2, .long l3]) (n := 5) (Nat.le_of_ble_eq_true rfl)
  rw [lg_entry_eq]
  generalize (lg_sl ([.ref (ad 0), .int l1, .int l2, .long l3]) ++ List.replicate (5 - (lg_sl ([.ref (ad 0), .int l1, .int l2, .long l3])).length) Slot.unset).toArray = ls at hl ⊢
  have hl : lv_has ls 5 [(0, .ref (ad 0)), (1, .int l1), (2, .int l2), (3, .long l3)] := hl
  refine lv_iload_n hx hb dX5_set_0 rfl (lv_at hl 1 rfl) ?_
  obtain ⟨o1, ho2, hm⟩ := bd_s hm
  refine xr_i (wr := [((ad 0), e_X5 ad t), ((ad 13), e_X0 (ad 14) (ad 15) (ad 16)), ((ad 14), eI cA 8 t_shelves_holding), ((ad 15), eI cA 8 t_shelves_sizes), ((ad 16), eJ cA 320 t_shelves_elements), ((ad 19), eI cA 5 t_refusals)]) (wn := [((ad 0), e_X5 ad t), ((ad 13), e_X0 (ad 14) (ad 15) (ad 16)), ((ad 14), eI cA 8 t_shelves_holding), ((ad 15), eI cA 8 t_shelves_sizes), ((ad 16), eJ cA 320 t_shelves_elements), ((ad 19), eI cA 5 t_refusals)]) (va_runS (As := [.int l1]) (rest := []) ⟨hx, hb, hml, hown, htg⟩ (c_X5_isShelf l D cA _ fu l1 o1 ho2) (cwS 1 htg (gS q_2_4 q_2_5 q_1_1 q_2_6) rfl rfl rfl hd_X5_isShelf ⟨Nat.le_of_ble_eq_true rfl, Nat.le_of_ble_eq_true rfl⟩) (xpS hN hK hP hD [] rfl (by decide)) rfl rfl hl.1 rfl (lv_room (Nat.le_of_ble_eq_true rfl)) dX5_set_1 ⟨Nat.zero_le _, Nat.zero_le _⟩) hP hD hS hA [] [0, 1, 2, 3, 4, 5] [0, 1, 2, 3, 4, 5] rfl rfl (by decide) (by decide) rfl (by decide) (fun H locs hP hD hS => ?_)
  refine lv_if_ne (tgt := 14) hx hb dX5_set_4 (by decide) (fun c3 => ?_) (fun c3 => ?_)
  · have hm := it_f c3 hm
    refine lv_aload_n hx hb dX5_set_14 rfl (lv_at hl 0 rfl) ?_
    refine va_get (D := D) (ci := 5) (v := .ref (ad 13)) (C := RX5) (T := TX5) (N := 17) hx hb htg inX5 hown hK hP 0 rfl rfl 4 (by decide) (htg _ q_1_192) (fun _ h9 => h9) rfl dX5_set_15 ?_
    refine lv_iload_n hx hb dX5_set_18 rfl (lv_at hl 1 rfl) ?_
    obtain ⟨o4, ho5, hm⟩ := bd_s hm
    refine xr_i (wr := [((ad 0), e_X5 ad t), ((ad 15), eI cA 8 t_shelves_sizes), ((ad 16), eJ cA 320 t_shelves_elements), ((ad 19), eI cA 5 t_refusals)]) (wn := [((ad 0), e_X5 ad t), ((ad 13), e_X0 (ad 14) (ad 15) (ad 16)), ((ad 14), eI cA 8 t_shelves_holding), ((ad 15), eI cA 8 t_shelves_sizes), ((ad 16), eJ cA 320 t_shelves_elements), ((ad 19), eI cA 5 t_refusals)]) (va_runVN (As := [.int l1]) (rest := []) ⟨hx, hb, hml, hown, htg⟩ (c_X0_hasVoice l D cA _ fu (ad 13) (ad 14) (ad 15) (ad 16) t_shelves_holding l1 o4 ho5) ⟨va_cnB 1 htg (gU q_2_33) rfl rfl rfl (hN _ q_2_30) (htg _ q_1_3) hd_X0_hasVoice.2 ⟨Nat.le_of_ble_eq_true rfl, Nat.le_of_ble_eq_true rfl⟩, htg _ q_2_32, htg _ q_p1_2⟩ (xpV hN hK hP hD [1, 2] rfl (by decide) rfl rfl) rfl rfl hl.1 rfl (lv_room (Nat.le_of_ble_eq_true rfl)) dX5_set_19 ⟨Nat.zero_le _, Nat.zero_le _⟩) hP hD hS hA [1, 2] [0, 3, 4, 5] [0, 4, 5, 1, 2, 3] rfl rfl (by decide) (by decide) rfl (by decide) (fun H locs hP hD hS => ?_)
    refine lv_if_eq (tgt := 32) hx hb dX5_set_22 (by decide) (fun c6 => ?_) (fun c6 => ?_)
    · have hm := it_t c6 hm
      refine lv_aload_n hx hb dX5_set_32 rfl (lv_at hl 0 rfl) ?_
      refine va_get (D := D) (ci := 5) (v := .ref (ad 13)) (C := RX5) (T := TX5) (N := 17) hx hb htg inX5 hown hK hP 0 rfl rfl 4 (by decide) (htg _ q_1_192) (fun _ h9 => h9) rfl dX5_set_33 ?_
      refine lv_iload_n hx hb dX5_set_36 rfl (lv_at hl 1 rfl) ?_
      obtain ⟨o7, ho8, hm⟩ := bd_s hm
      refine xr_i (wr := [((ad 0), e_X5 ad t), ((ad 15), eI cA 8 t_shelves_sizes), ((ad 16), eJ cA 320 t_shelves_elements), ((ad 19), eI cA 5 t_refusals)]) (wn := [((ad 0), e_X5 ad t), ((ad 13), e_X0 (ad 14) (ad 15) (ad 16)), ((ad 14), eI cA 8 t_shelves_holding), ((ad 15), eI cA 8 t_shelves_sizes), ((ad 16), eJ cA 320 t_shelves_elements), ((ad 19), eI cA 5 t_refusals)]) (va_runVN (As := [.int l1]) (rest := []) ⟨hx, hb, hml, hown, htg⟩ (c_X0_isBare l D cA _ fu (ad 13) (ad 14) (ad 15) (ad 16) t_shelves_holding l1 o7 ho8) ⟨va_cnB 1 htg (gU q_2_41) rfl rfl rfl (hN _ q_2_38) (htg _ q_1_3) hd_X0_isBare.2 ⟨Nat.le_of_ble_eq_true rfl, Nat.le_of_ble_eq_true rfl⟩, htg _ q_2_40, htg _ q_p1_4⟩ (xpV hN hK hP hD [1, 2] rfl (by decide) rfl rfl) rfl rfl hl.1 rfl (lv_room (Nat.le_of_ble_eq_true rfl)) dX5_set_37 ⟨Nat.zero_le _, Nat.zero_le _⟩) hP hD hS hA [1, 2] [0, 3, 4, 5] [0, 4, 5, 1, 2, 3] rfl rfl (by decide) (by decide) rfl (by decide) (fun H locs hP hD hS => ?_)
      refine lv_if_eq (tgt := 50) hx hb dX5_set_40 (by decide) (fun c9 => ?_) (fun c9 => ?_)
      · have hm := it_t c9 hm
        refine lv_aload_n hx hb dX5_set_50 rfl (lv_at hl 0 rfl) ?_
        refine va_get (D := D) (ci := 5) (v := .ref (ad 13)) (C := RX5) (T := TX5) (N := 17) hx hb htg inX5 hown hK hP 0 rfl rfl 4 (by decide) (htg _ q_1_192) (fun _ h9 => h9) rfl dX5_set_51 ?_
        refine lv_iload_n hx hb dX5_set_54 rfl (lv_at hl 1 rfl) ?_
        refine lv_iload_n hx hb dX5_set_55 rfl (lv_at hl 2 rfl) ?_
        refine lv_iconst (v := (1 : Int32)) hx hb dX5_set_56 (by decide) ?_
        obtain ⟨o10, ho11, hm⟩ := bd_s hm
        refine xr_i (wr := [((ad 0), e_X5 ad t), ((ad 14), eI cA 8 t_shelves_holding), ((ad 16), eJ cA 320 t_shelves_elements), ((ad 19), eI cA 5 t_refusals)]) (wn := [((ad 0), e_X5 ad t), ((ad 13), e_X0 (ad 14) (ad 15) (ad 16)), ((ad 14), eI cA 8 t_shelves_holding), ((ad 15), eI cA 8 t_shelves_sizes), ((ad 16), eJ cA 320 t_shelves_elements), ((ad 19), eI cA 5 t_refusals)]) (va_runVN (As := [.int l1, .int l2, .int (1 : Int32)]) (rest := []) ⟨hx, hb, hml, hown, htg⟩ (c_X0_hasPlaces l D cA _ fu (ad 13) (ad 14) (ad 15) (ad 16) t_shelves_sizes l1 l2 (1 : Int32) o10 ho11) ⟨va_cnB 3 htg (gU q_2_45) rfl rfl rfl (hN _ q_2_42) (htg _ q_1_3) hd_X0_hasPlaces.2 ⟨Nat.le_of_ble_eq_true rfl, Nat.le_of_ble_eq_true rfl⟩, htg _ q_2_44, htg _ q_p1_5⟩ (xpV hN hK hP hD [1, 3] rfl (by decide) rfl rfl) rfl rfl hl.1 rfl (lv_room (Nat.le_of_ble_eq_true rfl)) dX5_set_57 ⟨Nat.zero_le _, Nat.zero_le _⟩) hP hD hS hA [1, 3] [0, 2, 4, 5] [0, 4, 1, 5, 2, 3] rfl rfl (by decide) (by decide) rfl (by decide) (fun H locs hP hD hS => ?_)
        refine lv_if_ne (tgt := 70) hx hb dX5_set_60 (by decide) (fun c12 => ?_) (fun c12 => ?_)
        · have hm := it_f c12 hm
          refine lv_aload_n hx hb dX5_set_70 rfl (lv_at hl 0 rfl) ?_
          refine va_get (D := D) (ci := 5) (v := .ref (ad 13)) (C := RX5) (T := TX5) (N := 17) hx hb htg inX5 hown hK hP 0 rfl rfl 4 (by decide) (htg _ q_1_192) (fun _ h9 => h9) rfl dX5_set_71 ?_
          refine lv_iload_n hx hb dX5_set_74 rfl (lv_at hl 1 rfl) ?_
          refine lv_iload_n hx hb dX5_set_75 rfl (lv_at hl 2 rfl) ?_
          refine lv_lload_n hx hb dX5_set_76 rfl (lv_at hl 3 rfl) ?_
          obtain ⟨o13, ho14, hm⟩ := bd_s hm
          refine xr_v (wr := [((ad 0), e_X5 ad t), ((ad 19), eI cA 5 t_refusals)]) (wn := [((ad 0), e_X5 ad t), ((ad 13), e_X0 (ad 14) (ad 15) (ad 16)), ((ad 14), eI cA 8 t_shelves_holding), ((ad 15), eI cA 8 t_shelves_sizes), ((ad 16), eJ cA 320 o13), ((ad 19), eI cA 5 t_refusals)]) (va_runVN (As := [.int l1, .int l2, .long l3]) (rest := []) ⟨hx, hb, hml, hown, htg⟩ (c_X0_putElement l D cA _ fu (ad 13) (ad 14) (ad 15) (ad 16) t_shelves_holding t_shelves_sizes t_shelves_elements l1 l2 l3 o13 ho14) ⟨va_cnB 3 htg (gU q_2_49) rfl rfl rfl (hN _ q_2_46) (htg _ q_1_3) hd_X0_putElement.2 ⟨Nat.le_of_ble_eq_true rfl, Nat.le_of_ble_eq_true rfl⟩, htg _ q_2_48, htg _ q_p1_6⟩ (xpV hN hK hP hD [1, 2, 3, 4] rfl (by decide) rfl rfl) rfl rfl hl.1 rfl (lv_room (Nat.le_of_ble_eq_true rfl)) dX5_set_77 ⟨Nat.zero_le _, Nat.zero_le _⟩) hP hD hS hA [1, 2, 3, 4] [0, 5] [0, 2, 3, 4, 5, 1] rfl rfl (by decide) (by decide) rfl (by decide) (fun H locs hP hD hS => ?_)
          refine lv_iconst (v := (1 : Int32)) hx hb dX5_set_80 (by decide) ?_
          rw [hQ]
          exact W.iret (v := (1 : Int32)) hx hb hr (fun t9 ht hW => ⟨⟨(1 : Int32), (o13, t_refusals), rfl, (Option.some.inj hm), by rw [ht]; exact hP, va_K.moved hW.alike hK, hD⟩, hS.F ht⟩) hS.2.2 dX5_set_81
        · have hm := it_t c12 hm
          refine lv_aload_n hx hb dX5_set_63 rfl (lv_at hl 0 rfl) ?_
          refine lv_bipush (v := (-2 : Int32)) hx hb dX5_set_64 (by decide) ?_
          obtain ⟨o15, ho16, hm⟩ := bd_s hm
          refine xr_i (wr := [((ad 13), e_X0 (ad 14) (ad 15) (ad 16)), ((ad 14), eI cA 8 t_shelves_holding), ((ad 15), eI cA 8 t_shelves_sizes), ((ad 16), eJ cA 320 t_shelves_elements)]) (wn := [((ad 0), e_X5 ad t), ((ad 13), e_X0 (ad 14) (ad 15) (ad 16)), ((ad 14), eI cA 8 t_shelves_holding), ((ad 15), eI cA 8 t_shelves_sizes), ((ad 16), eJ cA 320 t_shelves_elements), ((ad 19), eI cA 5 o15.2)]) (va_runV (As := [.int (-2 : Int32)]) (rest := []) ⟨hx, hb, hml, hown, htg⟩ (c_X5_refuse l D cA _ fu ad t t_refusals (-2 : Int32) o15 ho16) (cwV 1 htg (gV q_2_10 q_2_12 q_p1_0 q_1_1 q_2_13) rfl rfl rfl hd_X5_refuse ⟨Nat.le_of_ble_eq_true rfl, Nat.le_of_ble_eq_true rfl⟩) (xpV hN hK hP hD [0, 5] rfl (by decide) rfl rfl) rfl rfl hl.1 rfl (lv_room (Nat.le_of_ble_eq_true rfl)) dX5_set_66 ⟨Nat.zero_le _, Nat.zero_le _⟩) hP hD hS hA [0, 5] [1, 2, 3, 4] [4, 0, 1, 2, 3, 5] rfl rfl (by decide) (by decide) rfl (by decide) (fun H locs hP hD hS => ?_)
          rw [hQ]
          exact W.iret (v := o15.1) hx hb hr (fun t9 ht hW => ⟨⟨o15.1, (t_shelves_elements, o15.2), rfl, (Option.some.inj hm), by rw [ht]; exact hP, va_K.moved hW.alike hK, hD⟩, hS.F ht⟩) hS.2.2 dX5_set_69
      · have hm := it_f c9 hm
        refine lv_aload_n hx hb dX5_set_43 rfl (lv_at hl 0 rfl) ?_
        refine lv_bipush (v := (-4 : Int32)) hx hb dX5_set_44 (by decide) ?_
        obtain ⟨o17, ho18, hm⟩ := bd_s hm
        refine xr_i (wr := [((ad 13), e_X0 (ad 14) (ad 15) (ad 16)), ((ad 14), eI cA 8 t_shelves_holding), ((ad 15), eI cA 8 t_shelves_sizes), ((ad 16), eJ cA 320 t_shelves_elements)]) (wn := [((ad 0), e_X5 ad t), ((ad 13), e_X0 (ad 14) (ad 15) (ad 16)), ((ad 14), eI cA 8 t_shelves_holding), ((ad 15), eI cA 8 t_shelves_sizes), ((ad 16), eJ cA 320 t_shelves_elements), ((ad 19), eI cA 5 o17.2)]) (va_runV (As := [.int (-4 : Int32)]) (rest := []) ⟨hx, hb, hml, hown, htg⟩ (c_X5_refuse l D cA _ fu ad t t_refusals (-4 : Int32) o17 ho18) (cwV 1 htg (gV q_2_10 q_2_12 q_p1_0 q_1_1 q_2_13) rfl rfl rfl hd_X5_refuse ⟨Nat.le_of_ble_eq_true rfl, Nat.le_of_ble_eq_true rfl⟩) (xpV hN hK hP hD [0, 5] rfl (by decide) rfl rfl) rfl rfl hl.1 rfl (lv_room (Nat.le_of_ble_eq_true rfl)) dX5_set_46 ⟨Nat.zero_le _, Nat.zero_le _⟩) hP hD hS hA [0, 5] [1, 2, 3, 4] [4, 0, 1, 2, 3, 5] rfl rfl (by decide) (by decide) rfl (by decide) (fun H locs hP hD hS => ?_)
        rw [hQ]
        exact W.iret (v := o17.1) hx hb hr (fun t9 ht hW => ⟨⟨o17.1, (t_shelves_elements, o17.2), rfl, (Option.some.inj hm), by rw [ht]; exact hP, va_K.moved hW.alike hK, hD⟩, hS.F ht⟩) hS.2.2 dX5_set_49
    · have hm := it_f c6 hm
      refine lv_aload_n hx hb dX5_set_25 rfl (lv_at hl 0 rfl) ?_
      refine lv_bipush (v := (-3 : Int32)) hx hb dX5_set_26 (by decide) ?_
      obtain ⟨o19, ho20, hm⟩ := bd_s hm
      refine xr_i (wr := [((ad 13), e_X0 (ad 14) (ad 15) (ad 16)), ((ad 14), eI cA 8 t_shelves_holding), ((ad 15), eI cA 8 t_shelves_sizes), ((ad 16), eJ cA 320 t_shelves_elements)]) (wn := [((ad 0), e_X5 ad t), ((ad 13), e_X0 (ad 14) (ad 15) (ad 16)), ((ad 14), eI cA 8 t_shelves_holding), ((ad 15), eI cA 8 t_shelves_sizes), ((ad 16), eJ cA 320 t_shelves_elements), ((ad 19), eI cA 5 o19.2)]) (va_runV (As := [.int (-3 : Int32)]) (rest := []) ⟨hx, hb, hml, hown, htg⟩ (c_X5_refuse l D cA _ fu ad t t_refusals (-3 : Int32) o19 ho20) (cwV 1 htg (gV q_2_10 q_2_12 q_p1_0 q_1_1 q_2_13) rfl rfl rfl hd_X5_refuse ⟨Nat.le_of_ble_eq_true rfl, Nat.le_of_ble_eq_true rfl⟩) (xpV hN hK hP hD [0, 5] rfl (by decide) rfl rfl) rfl rfl hl.1 rfl (lv_room (Nat.le_of_ble_eq_true rfl)) dX5_set_28 ⟨Nat.zero_le _, Nat.zero_le _⟩) hP hD hS hA [0, 5] [1, 2, 3, 4] [4, 0, 1, 2, 3, 5] rfl rfl (by decide) (by decide) rfl (by decide) (fun H locs hP hD hS => ?_)
      rw [hQ]
      exact W.iret (v := o19.1) hx hb hr (fun t9 ht hW => ⟨⟨o19.1, (t_shelves_elements, o19.2), rfl, (Option.some.inj hm), by rw [ht]; exact hP, va_K.moved hW.alike hK, hD⟩, hS.F ht⟩) hS.2.2 dX5_set_31
  · have hm := it_t c3 hm
    refine lv_aload_n hx hb dX5_set_7 rfl (lv_at hl 0 rfl) ?_
    refine lv_bipush (v := (-2 : Int32)) hx hb dX5_set_8 (by decide) ?_
    obtain ⟨o21, ho22, hm⟩ := bd_s hm
    refine xr_i (wr := [((ad 13), e_X0 (ad 14) (ad 15) (ad 16)), ((ad 14), eI cA 8 t_shelves_holding), ((ad 15), eI cA 8 t_shelves_sizes), ((ad 16), eJ cA 320 t_shelves_elements)]) (wn := [((ad 0), e_X5 ad t), ((ad 13), e_X0 (ad 14) (ad 15) (ad 16)), ((ad 14), eI cA 8 t_shelves_holding), ((ad 15), eI cA 8 t_shelves_sizes), ((ad 16), eJ cA 320 t_shelves_elements), ((ad 19), eI cA 5 o21.2)]) (va_runV (As := [.int (-2 : Int32)]) (rest := []) ⟨hx, hb, hml, hown, htg⟩ (c_X5_refuse l D cA _ fu ad t t_refusals (-2 : Int32) o21 ho22) (cwV 1 htg (gV q_2_10 q_2_12 q_p1_0 q_1_1 q_2_13) rfl rfl rfl hd_X5_refuse ⟨Nat.le_of_ble_eq_true rfl, Nat.le_of_ble_eq_true rfl⟩) (xpV hN hK hP hD [0, 5] rfl (by decide) rfl rfl) rfl rfl hl.1 rfl (lv_room (Nat.le_of_ble_eq_true rfl)) dX5_set_10 ⟨Nat.zero_le _, Nat.zero_le _⟩) hP hD hS hA [0, 5] [1, 2, 3, 4] [4, 0, 1, 2, 3, 5] rfl rfl (by decide) (by decide) rfl (by decide) (fun H locs hP hD hS => ?_)
    rw [hQ]
    exact W.iret (v := o21.1) hx hb hr (fun t9 ht hW => ⟨⟨o21.1, (t_shelves_elements, o21.2), rfl, (Option.some.inj hm), by rw [ht]; exact hP, va_K.moved hW.alike hK, hD⟩, hS.F ht⟩) hS.2.2 dX5_set_13
def b_X5_copy_14 (fu : Nat) (t : Nat → Int32) (t_shelves_holding : Nat → Int32) (t_shelves_sizes : Nat → Int32) (t_shelves_elements : Nat → Int64) (t_refusals : Nat → Int32) : Option (Int32 × ((Nat → Int64) × (Nat → Int32))) :=
  (m_X5_refuse fu t t_refusals (-2 : Int32)).bind fun o1 =>
    some (o1.1, (t_shelves_elements, o1.2))
def b_X5_copy_55 (fu : Nat) (t : Nat → Int32) (t_shelves_holding : Nat → Int32) (t_shelves_sizes : Nat → Int32) (t_shelves_elements : Nat → Int64) (t_refusals : Nat → Int32) : Option (Int32 × ((Nat → Int64) × (Nat → Int32))) :=
  (m_X5_refuse fu t t_refusals (-3 : Int32)).bind fun o3 =>
    some (o3.1, (t_shelves_elements, o3.2))
def b_X5_copy_84 (fu : Nat) (t : Nat → Int32) (t_shelves_holding : Nat → Int32) (t_shelves_sizes : Nat → Int32) (t_shelves_elements : Nat → Int64) (t_refusals : Nat → Int32) : Option (Int32 × ((Nat → Int64) × (Nat → Int32))) :=
  (m_X5_refuse fu t t_refusals (-4 : Int32)).bind fun o5 =>
    some (o5.1, (t_shelves_elements, o5.2))
def b_X5_copy_120 (fu : Nat) (t : Nat → Int32) (t_shelves_holding : Nat → Int32) (t_shelves_sizes : Nat → Int32) (t_shelves_elements : Nat → Int64) (t_refusals : Nat → Int32) : Option (Int32 × ((Nat → Int64) × (Nat → Int32))) :=
  (m_X5_refuse fu t t_refusals (-2 : Int32)).bind fun o7 =>
    some (o7.1, (t_shelves_elements, o7.2))
def m_X5_copy (fu : Nat) (t : Nat → Int32) (t_shelves_holding : Nat → Int32) (t_shelves_sizes : Nat → Int32) (t_shelves_elements : Nat → Int64) (t_refusals : Nat → Int32) (l1 : Int32) (l2 : Int32) (l3 : Int32) (l4 : Int32) (l5 : Int32) : Option (Int32 × ((Nat → Int64) × (Nat → Int32))) :=
  (m_X5_isShelf fu l1).bind fun o9 =>
  (if o9.1 = 0 then
    b_X5_copy_14 fu t t_shelves_holding t_shelves_sizes t_shelves_elements t_refusals
  else
    (m_X5_isShelf fu l2).bind fun o12 =>
    (if o12.1 = 0 then
      b_X5_copy_14 fu t t_shelves_holding t_shelves_sizes t_shelves_elements t_refusals
    else
      (m_X0_hasVoice fu t_shelves_holding l1).bind fun o15 =>
      (if o15.1 = 0 then
        (m_X0_hasVoice fu t_shelves_holding l2).bind fun o18 =>
        (if o18.1 = 0 then
          (m_X0_haveTwoSorts fu t_shelves_holding l1 l2).bind fun o21 =>
          (if o21.1 = 0 then
            (m_X0_isBare fu t_shelves_holding l1).bind fun o24 =>
            (if o24.1 = 0 then
              (m_X0_isBare fu t_shelves_holding l2).bind fun o27 =>
              (if o27.1 = 0 then
                (m_X0_hasPlaces fu t_shelves_sizes l1 l3 l5).bind fun o30 =>
                (if o30.1 = 0 then
                  b_X5_copy_120 fu t t_shelves_holding t_shelves_sizes t_shelves_elements t_refusals
                else
                  (m_X0_hasPlaces fu t_shelves_sizes l2 l4 l5).bind fun o33 =>
                  (if o33.1 = 0 then
                    b_X5_copy_120 fu t t_shelves_holding t_shelves_sizes t_shelves_elements t_refusals
                  else
                    (m_X0_copyElements fu t_shelves_sizes t_shelves_elements l1 l2 l3 l4 l5).bind fun o36 =>
                    some (l5, (o36, t_refusals))))
              else
                b_X5_copy_84 fu t t_shelves_holding t_shelves_sizes t_shelves_elements t_refusals)
            else
              b_X5_copy_84 fu t t_shelves_holding t_shelves_sizes t_shelves_elements t_refusals)
          else
            b_X5_copy_55 fu t t_shelves_holding t_shelves_sizes t_shelves_elements t_refusals)
        else
          b_X5_copy_55 fu t t_shelves_holding t_shelves_sizes t_shelves_elements t_refusals)
      else
        b_X5_copy_55 fu t t_shelves_holding t_shelves_sizes t_shelves_elements t_refusals)))
abbrev rm_X5_copy : Room := ({ frames := 5, cells := 0, slots := 0, locals := 106 } : Room)
abbrev w0_X5_copy (cA : Nat → ClassId) (ad : Nat → Nat) (t : Nat → Int32) (t_shelves_holding : Nat → Int32) (t_shelves_sizes : Nat → Int32) (t_shelves_elements : Nat → Int64) (t_refusals : Nat → Int32) : va_W := [((ad 0), e_X5 ad t), ((ad 13), e_X0 (ad 14) (ad 15) (ad 16)), ((ad 14), eI cA 8 t_shelves_holding), ((ad 15), eI cA 8 t_shelves_sizes), ((ad 16), eJ cA 320 t_shelves_elements), ((ad 19), eI cA 5 t_refusals)]
abbrev w1_X5_copy (cA : Nat → ClassId) (ad : Nat → Nat) (t : Nat → Int32) (t_shelves_holding : Nat → Int32) (t_shelves_sizes : Nat → Int32) (u : (Nat → Int64) × (Nat → Int32)) : va_W := [((ad 0), e_X5 ad t), ((ad 13), e_X0 (ad 14) (ad 15) (ad 16)), ((ad 14), eI cA 8 t_shelves_holding), ((ad 15), eI cA 8 t_shelves_sizes), ((ad 16), eJ cA 320 u.1), ((ad 19), eI cA 5 u.2)]
theorem hd_X5_copy : yX5_copy.cls = RX5 ∧ yX5_copy.cls ≠ "java/lang/invoke/MethodHandle" ∧ yX5_copy.cls ≠ "java/lang/invoke/VarHandle" ∧ (parseMethodDescriptor yX5_copy.desc).map (fun d => d.parameters.length) = some 5 := by decide +kernel
set_option maxHeartbeats 40000000 in
set_option maxRecDepth 100000 in
theorem c_X5_copy (l : Launch) (D : va_G) (cA : Nat → ClassId) (sz : Nat) (fu : Nat) (ad : Nat → Nat) (t : Nat → Int32) (t_shelves_holding : Nat → Int32) (t_shelves_sizes : Nat → Int32) (t_shelves_elements : Nat → Int64) (t_refusals : Nat → Int32) (l1 : Int32) (l2 : Int32) (l3 : Int32) (l4 : Int32) (l5 : Int32) (out : Int32 × ((Nat → Int64) × (Nat → Int32))) (hm : m_X5_copy fu t t_shelves_holding t_shelves_sizes t_shelves_elements t_refusals l1 l2 l3 l4 l5 = some out) : MI l yX5_copy (wU yX5_copy cX5_copy 6 ((Option.some Jvm.ClassFile.FieldType.int))) rm_X5_copy D cA sz [.ref (ad 0), .int l1, .int l2, .int l3, .int l4, .int l5] (w0_X5_copy cA ad t t_shelves_holding t_shelves_sizes t_shelves_elements t_refusals) out (w1_X5_copy cA ad t t_shelves_holding t_shelves_sizes) := by
  refine Met.ofW (cc := cX5_copy) (maxL := 6) (ret := (Option.some Jvm.ClassFile.FieldType.int)) (by decide) rfl ?_
  intro p e s m args below meth c s₁ B hml hv
  obtain ⟨hargs, hsz, hP, hK, hD0, hN⟩ := hv
  have hx := B.exec
  have hb := B.bytes
  have hr := B.returns
  have htg : ∀ w ∈ gw, w.before args s = true := fun w h => atoms_spec (ws := wU yX5_copy cX5_copy 6 ((Option.some Jvm.ClassFile.FieldType.int))) B.pre w (List.mem_cons_of_mem _ h)
  have hown : s.vm.findClass RX5 = some m.cls := findClass_of_methodNamed B.named
  have hlocks := B.notSynchronized
  subst hsz
  have hD := hD0.self (sz := s.heap.size)
  have hA : ∀ q : Nat, s.heap.size ≤ q → va_A (w0_X5_copy cA ad t t_shelves_holding t_shelves_sizes t_shelves_elements t_refusals) s.heap.size q := fun q h => Or.inr h
  have hS : va_S (va_A (w0_X5_copy cA ad t t_shelves_holding t_shelves_sizes t_shelves_elements t_refusals) s.heap.size) s.heap s.heap [] := va_S.rf
  generalize va_A (w0_X5_copy cA ad t t_shelves_holding t_shelves_sizes t_shelves_elements t_refusals) s.heap.size = A at hA hD hS ⊢
  obtain ⟨Q, hQ⟩ : ∃ Q : State → Prop, Q = MQ below (va_Qi (fun (r : Int32) (u : (Nat → Int64) × (Nat → Int32)) => (r, u) = out) (pst0 D cA A (w1_X5_copy cA ad t t_shelves_holding t_shelves_sizes)) A) args s 0 0 A := ⟨_, rfl⟩
  refine (?_ : W p l e rm_X5_copy s m args below meth c s.heap [] 0 0 (MQ below (va_Qi (fun (r : Int32) (u : (Nat → Int64) × (Nat → Int32)) => (r, u) = out) (pst0 D cA A (w1_X5_copy cA ad t t_shelves_holding t_shelves_sizes)) A) args s 0 0 A) (entryFrame m args 6))
  rw [← hQ]
  have hP : va_P D CL [((ad 0), e_X5 ad t), ((ad 13), e_X0 (ad 14) (ad 15) (ad 16)), ((ad 14), eI cA 8 t_shelves_holding), ((ad 15), eI cA 8 t_shelves_sizes), ((ad 16), eJ cA 320 t_shelves_elements), ((ad 19), eI cA 5 t_refusals)] s.heap := hP
  have hD : va_D A [((ad 0), e_X5 ad t), ((ad 13), e_X0 (ad 14) (ad 15) (ad 16)), ((ad 14), eI cA 8 t_shelves_holding), ((ad 15), eI cA 8 t_shelves_sizes), ((ad 16), eJ cA 320 t_shelves_elements), ((ad 19), eI cA 5 t_refusals)] := hD
  have B_14 : ∀ (t_shelves_elements : Nat → Int64) (t_refusals : Nat → Int32) (H : Heap) (locs : List Loc) (ls : Array Slot), b_X5_copy_14 fu t t_shelves_holding t_shelves_sizes t_shelves_elements t_refusals = some out → va_P D CL [((ad 0), e_X5 ad t), ((ad 13), e_X0 (ad 14) (ad 15) (ad 16)), ((ad 14), eI cA 8 t_shelves_holding), ((ad 15), eI cA 8 t_shelves_sizes), ((ad 16), eJ cA 320 t_shelves_elements), ((ad 19), eI cA 5 t_refusals)] H → va_D A [((ad 0), e_X5 ad t), ((ad 13), e_X0 (ad 14) (ad 15) (ad 16)), ((ad 14), eI cA 8 t_shelves_holding), ((ad 15), eI cA 8 t_shelves_sizes), ((ad 16), eJ cA 320 t_shelves_elements), ((ad 19), eI cA 5 t_refusals)] → va_S A s.heap H locs → lv_has ls 6 [(0, .ref (ad 0))] → W p l e rm_X5_copy s m args below meth c H locs 0 0 Q (F0 m 14 ls []) := by
    intro  t_shelves_elements t_refusals H locs ls hm hP hD hS hl
    unfold b_X5_copy_14 at hm
    refine lv_aload_n hx hb dX5_copy_14 rfl (lv_at hl 0 rfl) ?_
    refine lv_bipush (v := (-2 : Int32)) hx hb dX5_copy_15 (by decide) ?_
    obtain ⟨o1, ho2, hm⟩ := bd_s hm
    refine xr_i (wr := [((ad 13), e_X0 (ad 14) (ad 15) (ad 16)), ((ad 14), eI cA 8 t_shelves_holding), ((ad 15), eI cA 8 t_shelves_sizes), ((ad 16), eJ cA 320 t_shelves_elements)]) (wn := [((ad 0), e_X5 ad t), ((ad 13), e_X0 (ad 14) (ad 15) (ad 16)), ((ad 14), eI cA 8 t_shelves_holding), ((ad 15), eI cA 8 t_shelves_sizes), ((ad 16), eJ cA 320 t_shelves_elements), ((ad 19), eI cA 5 o1.2)]) (va_runV (As := [.int (-2 : Int32)]) (rest := []) ⟨hx, hb, hml, hown, htg⟩ (c_X5_refuse l D cA _ fu ad t t_refusals (-2 : Int32) o1 ho2) (cwV 1 htg (gV q_2_10 q_2_12 q_p1_0 q_1_1 q_2_13) rfl rfl rfl hd_X5_refuse ⟨Nat.le_of_ble_eq_true rfl, Nat.le_of_ble_eq_true rfl⟩) (xpV hN hK hP hD [0, 5] rfl (by decide) rfl rfl) rfl rfl hl.1 rfl (lv_room (Nat.le_of_ble_eq_true rfl)) dX5_copy_17 ⟨Nat.zero_le _, Nat.zero_le _⟩) hP hD hS hA [0, 5] [1, 2, 3, 4] [4, 0, 1, 2, 3, 5] rfl rfl (by decide) (by decide) rfl (by decide) (fun H locs hP hD hS => ?_)
    rw [hQ]
    exact W.iret (v := o1.1) hx hb hr (fun t9 ht hW => ⟨⟨o1.1, (t_shelves_elements, o1.2), rfl, (Option.some.inj hm), by rw [ht]; exact hP, va_K.moved hW.alike hK, hD⟩, hS.F ht⟩) hS.2.2 dX5_copy_20
  have B_55 : ∀ (t_shelves_elements : Nat → Int64) (t_refusals : Nat → Int32) (H : Heap) (locs : List Loc) (ls : Array Slot), b_X5_copy_55 fu t t_shelves_holding t_shelves_sizes t_shelves_elements t_refusals = some out → va_P D CL [((ad 0), e_X5 ad t), ((ad 13), e_X0 (ad 14) (ad 15) (ad 16)), ((ad 14), eI cA 8 t_shelves_holding), ((ad 15), eI cA 8 t_shelves_sizes), ((ad 16), eJ cA 320 t_shelves_elements), ((ad 19), eI cA 5 t_refusals)] H → va_D A [((ad 0), e_X5 ad t), ((ad 13), e_X0 (ad 14) (ad 15) (ad 16)), ((ad 14), eI cA 8 t_shelves_holding), ((ad 15), eI cA 8 t_shelves_sizes), ((ad 16), eJ cA 320 t_shelves_elements), ((ad 19), eI cA 5 t_refusals)] → va_S A s.heap H locs → lv_has ls 6 [(0, .ref (ad 0))] → W p l e rm_X5_copy s m args below meth c H locs 0 0 Q (F0 m 55 ls []) := by
    intro  t_shelves_elements t_refusals H locs ls hm hP hD hS hl
    unfold b_X5_copy_55 at hm
    refine lv_aload_n hx hb dX5_copy_55 rfl (lv_at hl 0 rfl) ?_
    refine lv_bipush (v := (-3 : Int32)) hx hb dX5_copy_56 (by decide) ?_
    obtain ⟨o3, ho4, hm⟩ := bd_s hm
    refine xr_i (wr := [((ad 13), e_X0 (ad 14) (ad 15) (ad 16)), ((ad 14), eI cA 8 t_shelves_holding), ((ad 15), eI cA 8 t_shelves_sizes), ((ad 16), eJ cA 320 t_shelves_elements)]) (wn := [((ad 0), e_X5 ad t), ((ad 13), e_X0 (ad 14) (ad 15) (ad 16)), ((ad 14), eI cA 8 t_shelves_holding), ((ad 15), eI cA 8 t_shelves_sizes), ((ad 16), eJ cA 320 t_shelves_elements), ((ad 19), eI cA 5 o3.2)]) (va_runV (As := [.int (-3 : Int32)]) (rest := []) ⟨hx, hb, hml, hown, htg⟩ (c_X5_refuse l D cA _ fu ad t t_refusals (-3 : Int32) o3 ho4) (cwV 1 htg (gV q_2_10 q_2_12 q_p1_0 q_1_1 q_2_13) rfl rfl rfl hd_X5_refuse ⟨Nat.le_of_ble_eq_true rfl, Nat.le_of_ble_eq_true rfl⟩) (xpV hN hK hP hD [0, 5] rfl (by decide) rfl rfl) rfl rfl hl.1 rfl (lv_room (Nat.le_of_ble_eq_true rfl)) dX5_copy_58 ⟨Nat.zero_le _, Nat.zero_le _⟩) hP hD hS hA [0, 5] [1, 2, 3, 4] [4, 0, 1, 2, 3, 5] rfl rfl (by decide) (by decide) rfl (by decide) (fun H locs hP hD hS => ?_)
    rw [hQ]
    exact W.iret (v := o3.1) hx hb hr (fun t9 ht hW => ⟨⟨o3.1, (t_shelves_elements, o3.2), rfl, (Option.some.inj hm), by rw [ht]; exact hP, va_K.moved hW.alike hK, hD⟩, hS.F ht⟩) hS.2.2 dX5_copy_61
  have B_84 : ∀ (t_shelves_elements : Nat → Int64) (t_refusals : Nat → Int32) (H : Heap) (locs : List Loc) (ls : Array Slot), b_X5_copy_84 fu t t_shelves_holding t_shelves_sizes t_shelves_elements t_refusals = some out → va_P D CL [((ad 0), e_X5 ad t), ((ad 13), e_X0 (ad 14) (ad 15) (ad 16)), ((ad 14), eI cA 8 t_shelves_holding), ((ad 15), eI cA 8 t_shelves_sizes), ((ad 16), eJ cA 320 t_shelves_elements), ((ad 19), eI cA 5 t_refusals)] H → va_D A [((ad 0), e_X5 ad t), ((ad 13), e_X0 (ad 14) (ad 15) (ad 16)), ((ad 14), eI cA 8 t_shelves_holding), ((ad 15), eI cA 8 t_shelves_sizes), ((ad 16), eJ cA 320 t_shelves_elements), ((ad 19), eI cA 5 t_refusals)] → va_S A s.heap H locs → lv_has ls 6 [(0, .ref (ad 0))] → W p l e rm_X5_copy s m args below meth c H locs 0 0 Q (F0 m 84 ls []) := by
    intro  t_shelves_elements t_refusals H locs ls hm hP hD hS hl
    unfold b_X5_copy_84 at hm
    refine lv_aload_n hx hb dX5_copy_84 rfl (lv_at hl 0 rfl) ?_
    refine lv_bipush (v := (-4 : Int32)) hx hb dX5_copy_85 (by decide) ?_
    obtain ⟨o5, ho6, hm⟩ := bd_s hm
    refine xr_i (wr := [((ad 13), e_X0 (ad 14) (ad 15) (ad 16)), ((ad 14), eI cA 8 t_shelves_holding), ((ad 15), eI cA 8 t_shelves_sizes), ((ad 16), eJ cA 320 t_shelves_elements)]) (wn := [((ad 0), e_X5 ad t), ((ad 13), e_X0 (ad 14) (ad 15) (ad 16)), ((ad 14), eI cA 8 t_shelves_holding), ((ad 15), eI cA 8 t_shelves_sizes), ((ad 16), eJ cA 320 t_shelves_elements), ((ad 19), eI cA 5 o5.2)]) (va_runV (As := [.int (-4 : Int32)]) (rest := []) ⟨hx, hb, hml, hown, htg⟩ (c_X5_refuse l D cA _ fu ad t t_refusals (-4 : Int32) o5 ho6) (cwV 1 htg (gV q_2_10 q_2_12 q_p1_0 q_1_1 q_2_13) rfl rfl rfl hd_X5_refuse ⟨Nat.le_of_ble_eq_true rfl, Nat.le_of_ble_eq_true rfl⟩) (xpV hN hK hP hD [0, 5] rfl (by decide) rfl rfl) rfl rfl hl.1 rfl (lv_room (Nat.le_of_ble_eq_true rfl)) dX5_copy_87 ⟨Nat.zero_le _, Nat.zero_le _⟩) hP hD hS hA [0, 5] [1, 2, 3, 4] [4, 0, 1, 2, 3, 5] rfl rfl (by decide) (by decide) rfl (by decide) (fun H locs hP hD hS => ?_)
    rw [hQ]
    exact W.iret (v := o5.1) hx hb hr (fun t9 ht hW => ⟨⟨o5.1, (t_shelves_elements, o5.2), rfl, (Option.some.inj hm), by rw [ht]; exact hP, va_K.moved hW.alike hK, hD⟩, hS.F ht⟩) hS.2.2 dX5_copy_90
  have B_120 : ∀ (t_shelves_elements : Nat → Int64) (t_refusals : Nat → Int32) (H : Heap) (locs : List Loc) (ls : Array Slot), b_X5_copy_120 fu t t_shelves_holding t_shelves_sizes t_shelves_elements t_refusals = some out → va_P D CL [((ad 0), e_X5 ad t), ((ad 13), e_X0 (ad 14) (ad 15) (ad 16)), ((ad 14), eI cA 8 t_shelves_holding), ((ad 15), eI cA 8 t_shelves_sizes), ((ad 16), eJ cA 320 t_shelves_elements), ((ad 19), eI cA 5 t_refusals)] H → va_D A [((ad 0), e_X5 ad t), ((ad 13), e_X0 (ad 14) (ad 15) (ad 16)), ((ad 14), eI cA 8 t_shelves_holding), ((ad 15), eI cA 8 t_shelves_sizes), ((ad 16), eJ cA 320 t_shelves_elements), ((ad 19), eI cA 5 t_refusals)] → va_S A s.heap H locs → lv_has ls 6 [(0, .ref (ad 0))] → W p l e rm_X5_copy s m args below meth c H locs 0 0 Q (F0 m 120 ls []) := by
    intro  t_shelves_elements t_refusals H locs ls hm hP hD hS hl
    unfold b_X5_copy_120 at hm
    refine lv_aload_n hx hb dX5_copy_120 rfl (lv_at hl 0 rfl) ?_
    refine lv_bipush (v := (-2 : Int32)) hx hb dX5_copy_121 (by decide) ?_
    obtain ⟨o7, ho8, hm⟩ := bd_s hm
    refine xr_i (wr := [((ad 13), e_X0 (ad 14) (ad 15) (ad 16)), ((ad 14), eI cA 8 t_shelves_holding), ((ad 15), eI cA 8 t_shelves_sizes), ((ad 16), eJ cA 320 t_shelves_elements)]) (wn := [((ad 0), e_X5 ad t), ((ad 13), e_X0 (ad 14) (ad 15) (ad 16)), ((ad 14), eI cA 8 t_shelves_holding), ((ad 15), eI cA 8 t_shelves_sizes), ((ad 16), eJ cA 320 t_shelves_elements), ((ad 19), eI cA 5 o7.2)]) (va_runV (As := [.int (-2 : Int32)]) (rest := []) ⟨hx, hb, hml, hown, htg⟩ (c_X5_refuse l D cA _ fu ad t t_refusals (-2 : Int32) o7 ho8) (cwV 1 htg (gV q_2_10 q_2_12 q_p1_0 q_1_1 q_2_13) rfl rfl rfl hd_X5_refuse ⟨Nat.le_of_ble_eq_true rfl, Nat.le_of_ble_eq_true rfl⟩) (xpV hN hK hP hD [0, 5] rfl (by decide) rfl rfl) rfl rfl hl.1 rfl (lv_room (Nat.le_of_ble_eq_true rfl)) dX5_copy_123 ⟨Nat.zero_le _, Nat.zero_le _⟩) hP hD hS hA [0, 5] [1, 2, 3, 4] [4, 0, 1, 2, 3, 5] rfl rfl (by decide) (by decide) rfl (by decide) (fun H locs hP hD hS => ?_)
    rw [hQ]
    exact W.iret (v := o7.1) hx hb hr (fun t9 ht hW => ⟨⟨o7.1, (t_shelves_elements, o7.2), rfl, (Option.some.inj hm), by rw [ht]; exact hP, va_K.moved hW.alike hK, hD⟩, hS.F ht⟩) hS.2.2 dX5_copy_126
  unfold m_X5_copy at hm
  subst hargs
  have hl := lv_entry ([.ref (ad 0), .int l1, .int l2, .int l3, .int l4, .int l5]) (n := 6) (Nat.le_of_ble_eq_true rfl)
  rw [lg_entry_eq]
  generalize (lg_sl ([.ref (ad 0), .int l1, .int l2, .int l3, .int l4, .int l5]) ++ List.replicate (6 - (lg_sl ([.ref (ad 0), .int l1, .int l2, .int l3, .int l4, .int l5])).length) Slot.unset).toArray = ls at hl ⊢
  have hl : lv_has ls 6 [(0, .ref (ad 0)), (1, .int l1), (2, .int l2), (3, .int l3), (4, .int l4), (5, .int l5)] := hl
  refine lv_iload_n hx hb dX5_copy_0 rfl (lv_at hl 1 rfl) ?_
  obtain ⟨o9, ho10, hm⟩ := bd_s hm
  refine xr_i (wr := [((ad 0), e_X5 ad t), ((ad 13), e_X0 (ad 14) (ad 15) (ad 16)), ((ad 14), eI cA 8 t_shelves_holding), ((ad 15), eI cA 8 t_shelves_sizes), ((ad 16), eJ cA 320 t_shelves_elements), ((ad 19), eI cA 5 t_refusals)]) (wn := [((ad 0), e_X5 ad t), ((ad 13), e_X0 (ad 14) (ad 15) (ad 16)), ((ad 14), eI cA 8 t_shelves_holding), ((ad 15), eI cA 8 t_shelves_sizes), ((ad 16), eJ cA 320 t_shelves_elements), ((ad 19), eI cA 5 t_refusals)]) (va_runS (As := [.int l1]) (rest := []) ⟨hx, hb, hml, hown, htg⟩ (c_X5_isShelf l D cA _ fu l1 o9 ho10) (cwS 1 htg (gS q_2_4 q_2_5 q_1_1 q_2_6) rfl rfl rfl hd_X5_isShelf ⟨Nat.le_of_ble_eq_true rfl, Nat.le_of_ble_eq_true rfl⟩) (xpS hN hK hP hD [] rfl (by decide)) rfl rfl hl.1 rfl (lv_room (Nat.le_of_ble_eq_true rfl)) dX5_copy_1 ⟨Nat.zero_le _, Nat.zero_le _⟩) hP hD hS hA [] [0, 1, 2, 3, 4, 5] [0, 1, 2, 3, 4, 5] rfl rfl (by decide) (by decide) rfl (by decide) (fun H locs hP hD hS => ?_)
  refine lv_if_eq (tgt := 14) hx hb dX5_copy_4 (by decide) (fun c11 => ?_) (fun c11 => ?_)
  · have hm := it_t c11 hm
    exact B_14 _ _ _ _ _ hm hP hD hS (lv_sub hl [0] rfl)
  · have hm := it_f c11 hm
    refine lv_iload_n hx hb dX5_copy_7 rfl (lv_at hl 2 rfl) ?_
    obtain ⟨o12, ho13, hm⟩ := bd_s hm
    refine xr_i (wr := [((ad 0), e_X5 ad t), ((ad 13), e_X0 (ad 14) (ad 15) (ad 16)), ((ad 14), eI cA 8 t_shelves_holding), ((ad 15), eI cA 8 t_shelves_sizes), ((ad 16), eJ cA 320 t_shelves_elements), ((ad 19), eI cA 5 t_refusals)]) (wn := [((ad 0), e_X5 ad t), ((ad 13), e_X0 (ad 14) (ad 15) (ad 16)), ((ad 14), eI cA 8 t_shelves_holding), ((ad 15), eI cA 8 t_shelves_sizes), ((ad 16), eJ cA 320 t_shelves_elements), ((ad 19), eI cA 5 t_refusals)]) (va_runS (As := [.int l2]) (rest := []) ⟨hx, hb, hml, hown, htg⟩ (c_X5_isShelf l D cA _ fu l2 o12 ho13) (cwS 1 htg (gS q_2_4 q_2_5 q_1_1 q_2_6) rfl rfl rfl hd_X5_isShelf ⟨Nat.le_of_ble_eq_true rfl, Nat.le_of_ble_eq_true rfl⟩) (xpS hN hK hP hD [] rfl (by decide)) rfl rfl hl.1 rfl (lv_room (Nat.le_of_ble_eq_true rfl)) dX5_copy_8 ⟨Nat.zero_le _, Nat.zero_le _⟩) hP hD hS hA [] [0, 1, 2, 3, 4, 5] [0, 1, 2, 3, 4, 5] rfl rfl (by decide) (by decide) rfl (by decide) (fun H locs hP hD hS => ?_)
    refine lv_if_ne (tgt := 21) hx hb dX5_copy_11 (by decide) (fun c14 => ?_) (fun c14 => ?_)
    · have hm := it_f c14 hm
      refine lv_aload_n hx hb dX5_copy_21 rfl (lv_at hl 0 rfl) ?_
      refine va_get (D := D) (ci := 5) (v := .ref (ad 13)) (C := RX5) (T := TX5) (N := 17) hx hb htg inX5 hown hK hP 0 rfl rfl 4 (by decide) (htg _ q_1_192) (fun _ h9 => h9) rfl dX5_copy_22 ?_
      refine lv_iload_n hx hb dX5_copy_25 rfl (lv_at hl 1 rfl) ?_
      obtain ⟨o15, ho16, hm⟩ := bd_s hm
      refine xr_i (wr := [((ad 0), e_X5 ad t), ((ad 15), eI cA 8 t_shelves_sizes), ((ad 16), eJ cA 320 t_shelves_elements), ((ad 19), eI cA 5 t_refusals)]) (wn := [((ad 0), e_X5 ad t), ((ad 13), e_X0 (ad 14) (ad 15) (ad 16)), ((ad 14), eI cA 8 t_shelves_holding), ((ad 15), eI cA 8 t_shelves_sizes), ((ad 16), eJ cA 320 t_shelves_elements), ((ad 19), eI cA 5 t_refusals)]) (va_runVN (As := [.int l1]) (rest := []) ⟨hx, hb, hml, hown, htg⟩ (c_X0_hasVoice l D cA _ fu (ad 13) (ad 14) (ad 15) (ad 16) t_shelves_holding l1 o15 ho16) ⟨va_cnB 1 htg (gU q_2_33) rfl rfl rfl (hN _ q_2_30) (htg _ q_1_3) hd_X0_hasVoice.2 ⟨Nat.le_of_ble_eq_true rfl, Nat.le_of_ble_eq_true rfl⟩, htg _ q_2_32, htg _ q_p1_2⟩ (xpV hN hK hP hD [1, 2] rfl (by decide) rfl rfl) rfl rfl hl.1 rfl (lv_room (Nat.le_of_ble_eq_true rfl)) dX5_copy_26 ⟨Nat.zero_le _, Nat.zero_le _⟩) hP hD hS hA [1, 2] [0, 3, 4, 5] [0, 4, 5, 1, 2, 3] rfl rfl (by decide) (by decide) rfl (by decide) (fun H locs hP hD hS => ?_)
      refine lv_if_ne (tgt := 55) hx hb dX5_copy_29 (by decide) (fun c17 => ?_) (fun c17 => ?_)
      · have hm := it_f c17 hm
        exact B_55 _ _ _ _ _ hm hP hD hS (lv_sub hl [0] rfl)
      · have hm := it_t c17 hm
        refine lv_aload_n hx hb dX5_copy_32 rfl (lv_at hl 0 rfl) ?_
        refine va_get (D := D) (ci := 5) (v := .ref (ad 13)) (C := RX5) (T := TX5) (N := 17) hx hb htg inX5 hown hK hP 0 rfl rfl 4 (by decide) (htg _ q_1_192) (fun _ h9 => h9) rfl dX5_copy_33 ?_
        refine lv_iload_n hx hb dX5_copy_36 rfl (lv_at hl 2 rfl) ?_
        obtain ⟨o18, ho19, hm⟩ := bd_s hm
        refine xr_i (wr := [((ad 0), e_X5 ad t), ((ad 15), eI cA 8 t_shelves_sizes), ((ad 16), eJ cA 320 t_shelves_elements), ((ad 19), eI cA 5 t_refusals)]) (wn := [((ad 0), e_X5 ad t), ((ad 13), e_X0 (ad 14) (ad 15) (ad 16)), ((ad 14), eI cA 8 t_shelves_holding), ((ad 15), eI cA 8 t_shelves_sizes), ((ad 16), eJ cA 320 t_shelves_elements), ((ad 19), eI cA 5 t_refusals)]) (va_runVN (As := [.int l2]) (rest := []) ⟨hx, hb, hml, hown, htg⟩ (c_X0_hasVoice l D cA _ fu (ad 13) (ad 14) (ad 15) (ad 16) t_shelves_holding l2 o18 ho19) ⟨va_cnB 1 htg (gU q_2_33) rfl rfl rfl (hN _ q_2_30) (htg _ q_1_3) hd_X0_hasVoice.2 ⟨Nat.le_of_ble_eq_true rfl, Nat.le_of_ble_eq_true rfl⟩, htg _ q_2_32, htg _ q_p1_2⟩ (xpV hN hK hP hD [1, 2] rfl (by decide) rfl rfl) rfl rfl hl.1 rfl (lv_room (Nat.le_of_ble_eq_true rfl)) dX5_copy_37 ⟨Nat.zero_le _, Nat.zero_le _⟩) hP hD hS hA [1, 2] [0, 3, 4, 5] [0, 4, 5, 1, 2, 3] rfl rfl (by decide) (by decide) rfl (by decide) (fun H locs hP hD hS => ?_)
        refine lv_if_ne (tgt := 55) hx hb dX5_copy_40 (by decide) (fun c20 => ?_) (fun c20 => ?_)
        · have hm := it_f c20 hm
          exact B_55 _ _ _ _ _ hm hP hD hS (lv_sub hl [0] rfl)
        · have hm := it_t c20 hm
          refine lv_aload_n hx hb dX5_copy_43 rfl (lv_at hl 0 rfl) ?_
          refine va_get (D := D) (ci := 5) (v := .ref (ad 13)) (C := RX5) (T := TX5) (N := 17) hx hb htg inX5 hown hK hP 0 rfl rfl 4 (by decide) (htg _ q_1_192) (fun _ h9 => h9) rfl dX5_copy_44 ?_
          refine lv_iload_n hx hb dX5_copy_47 rfl (lv_at hl 1 rfl) ?_
          refine lv_iload_n hx hb dX5_copy_48 rfl (lv_at hl 2 rfl) ?_
          obtain ⟨o21, ho22, hm⟩ := bd_s hm
          refine xr_i (wr := [((ad 0), e_X5 ad t), ((ad 15), eI cA 8 t_shelves_sizes), ((ad 16), eJ cA 320 t_shelves_elements), ((ad 19), eI cA 5 t_refusals)]) (wn := [((ad 0), e_X5 ad t), ((ad 13), e_X0 (ad 14) (ad 15) (ad 16)), ((ad 14), eI cA 8 t_shelves_holding), ((ad 15), eI cA 8 t_shelves_sizes), ((ad 16), eJ cA 320 t_shelves_elements), ((ad 19), eI cA 5 t_refusals)]) (va_runVN (As := [.int l1, .int l2]) (rest := []) ⟨hx, hb, hml, hown, htg⟩ (c_X0_haveTwoSorts l D cA _ fu (ad 13) (ad 14) (ad 15) (ad 16) t_shelves_holding l1 l2 o21 ho22) ⟨va_cnB 2 htg (gU q_2_61) rfl rfl rfl (hN _ q_2_58) (htg _ q_1_3) hd_X0_haveTwoSorts.2 ⟨Nat.le_of_ble_eq_true rfl, Nat.le_of_ble_eq_true rfl⟩, htg _ q_2_60, htg _ q_p1_7⟩ (xpV hN hK hP hD [1, 2] rfl (by decide) rfl rfl) rfl rfl hl.1 rfl (lv_room (Nat.le_of_ble_eq_true rfl)) dX5_copy_49 ⟨Nat.zero_le _, Nat.zero_le _⟩) hP hD hS hA [1, 2] [0, 3, 4, 5] [0, 4, 5, 1, 2, 3] rfl rfl (by decide) (by decide) rfl (by decide) (fun H locs hP hD hS => ?_)
          refine lv_if_eq (tgt := 62) hx hb dX5_copy_52 (by decide) (fun c23 => ?_) (fun c23 => ?_)
          · have hm := it_t c23 hm
            refine lv_aload_n hx hb dX5_copy_62 rfl (lv_at hl 0 rfl) ?_
            refine va_get (D := D) (ci := 5) (v := .ref (ad 13)) (C := RX5) (T := TX5) (N := 17) hx hb htg inX5 hown hK hP 0 rfl rfl 4 (by decide) (htg _ q_1_192) (fun _ h9 => h9) rfl dX5_copy_63 ?_
            refine lv_iload_n hx hb dX5_copy_66 rfl (lv_at hl 1 rfl) ?_
            obtain ⟨o24, ho25, hm⟩ := bd_s hm
            refine xr_i (wr := [((ad 0), e_X5 ad t), ((ad 15), eI cA 8 t_shelves_sizes), ((ad 16), eJ cA 320 t_shelves_elements), ((ad 19), eI cA 5 t_refusals)]) (wn := [((ad 0), e_X5 ad t), ((ad 13), e_X0 (ad 14) (ad 15) (ad 16)), ((ad 14), eI cA 8 t_shelves_holding), ((ad 15), eI cA 8 t_shelves_sizes), ((ad 16), eJ cA 320 t_shelves_elements), ((ad 19), eI cA 5 t_refusals)]) (va_runVN (As := [.int l1]) (rest := []) ⟨hx, hb, hml, hown, htg⟩ (c_X0_isBare l D cA _ fu (ad 13) (ad 14) (ad 15) (ad 16) t_shelves_holding l1 o24 ho25) ⟨va_cnB 1 htg (gU q_2_41) rfl rfl rfl (hN _ q_2_38) (htg _ q_1_3) hd_X0_isBare.2 ⟨Nat.le_of_ble_eq_true rfl, Nat.le_of_ble_eq_true rfl⟩, htg _ q_2_40, htg _ q_p1_4⟩ (xpV hN hK hP hD [1, 2] rfl (by decide) rfl rfl) rfl rfl hl.1 rfl (lv_room (Nat.le_of_ble_eq_true rfl)) dX5_copy_67 ⟨Nat.zero_le _, Nat.zero_le _⟩) hP hD hS hA [1, 2] [0, 3, 4, 5] [0, 4, 5, 1, 2, 3] rfl rfl (by decide) (by decide) rfl (by decide) (fun H locs hP hD hS => ?_)
            refine lv_if_ne (tgt := 84) hx hb dX5_copy_70 (by decide) (fun c26 => ?_) (fun c26 => ?_)
            · have hm := it_f c26 hm
              exact B_84 _ _ _ _ _ hm hP hD hS (lv_sub hl [0] rfl)
            · have hm := it_t c26 hm
              refine lv_aload_n hx hb dX5_copy_73 rfl (lv_at hl 0 rfl) ?_
              refine va_get (D := D) (ci := 5) (v := .ref (ad 13)) (C := RX5) (T := TX5) (N := 17) hx hb htg inX5 hown hK hP 0 rfl rfl 4 (by decide) (htg _ q_1_192) (fun _ h9 => h9) rfl dX5_copy_74 ?_
              refine lv_iload_n hx hb dX5_copy_77 rfl (lv_at hl 2 rfl) ?_
              obtain ⟨o27, ho28, hm⟩ := bd_s hm
              refine xr_i (wr := [((ad 0), e_X5 ad t), ((ad 15), eI cA 8 t_shelves_sizes), ((ad 16), eJ cA 320 t_shelves_elements), ((ad 19), eI cA 5 t_refusals)]) (wn := [((ad 0), e_X5 ad t), ((ad 13), e_X0 (ad 14) (ad 15) (ad 16)), ((ad 14), eI cA 8 t_shelves_holding), ((ad 15), eI cA 8 t_shelves_sizes), ((ad 16), eJ cA 320 t_shelves_elements), ((ad 19), eI cA 5 t_refusals)]) (va_runVN (As := [.int l2]) (rest := []) ⟨hx, hb, hml, hown, htg⟩ (c_X0_isBare l D cA _ fu (ad 13) (ad 14) (ad 15) (ad 16) t_shelves_holding l2 o27 ho28) ⟨va_cnB 1 htg (gU q_2_41) rfl rfl rfl (hN _ q_2_38) (htg _ q_1_3) hd_X0_isBare.2 ⟨Nat.le_of_ble_eq_true rfl, Nat.le_of_ble_eq_true rfl⟩, htg _ q_2_40, htg _ q_p1_4⟩ (xpV hN hK hP hD [1, 2] rfl (by decide) rfl rfl) rfl rfl hl.1 rfl (lv_room (Nat.le_of_ble_eq_true rfl)) dX5_copy_78 ⟨Nat.zero_le _, Nat.zero_le _⟩) hP hD hS hA [1, 2] [0, 3, 4, 5] [0, 4, 5, 1, 2, 3] rfl rfl (by decide) (by decide) rfl (by decide) (fun H locs hP hD hS => ?_)
              refine lv_if_eq (tgt := 91) hx hb dX5_copy_81 (by decide) (fun c29 => ?_) (fun c29 => ?_)
              · have hm := it_t c29 hm
                refine lv_aload_n hx hb dX5_copy_91 rfl (lv_at hl 0 rfl) ?_
                refine va_get (D := D) (ci := 5) (v := .ref (ad 13)) (C := RX5) (T := TX5) (N := 17) hx hb htg inX5 hown hK hP 0 rfl rfl 4 (by decide) (htg _ q_1_192) (fun _ h9 => h9) rfl dX5_copy_92 ?_
                refine lv_iload_n hx hb dX5_copy_95 rfl (lv_at hl 1 rfl) ?_
                refine lv_iload_n hx hb dX5_copy_96 rfl (lv_at hl 3 rfl) ?_
                refine lv_iload hx hb dX5_copy_97 (lv_at hl 5 rfl) ?_
                obtain ⟨o30, ho31, hm⟩ := bd_s hm
                refine xr_i (wr := [((ad 0), e_X5 ad t), ((ad 14), eI cA 8 t_shelves_holding), ((ad 16), eJ cA 320 t_shelves_elements), ((ad 19), eI cA 5 t_refusals)]) (wn := [((ad 0), e_X5 ad t), ((ad 13), e_X0 (ad 14) (ad 15) (ad 16)), ((ad 14), eI cA 8 t_shelves_holding), ((ad 15), eI cA 8 t_shelves_sizes), ((ad 16), eJ cA 320 t_shelves_elements), ((ad 19), eI cA 5 t_refusals)]) (va_runVN (As := [.int l1, .int l3, .int l5]) (rest := []) ⟨hx, hb, hml, hown, htg⟩ (c_X0_hasPlaces l D cA _ fu (ad 13) (ad 14) (ad 15) (ad 16) t_shelves_sizes l1 l3 l5 o30 ho31) ⟨va_cnB 3 htg (gU q_2_45) rfl rfl rfl (hN _ q_2_42) (htg _ q_1_3) hd_X0_hasPlaces.2 ⟨Nat.le_of_ble_eq_true rfl, Nat.le_of_ble_eq_true rfl⟩, htg _ q_2_44, htg _ q_p1_5⟩ (xpV hN hK hP hD [1, 3] rfl (by decide) rfl rfl) rfl rfl hl.1 rfl (lv_room (Nat.le_of_ble_eq_true rfl)) dX5_copy_99 ⟨Nat.zero_le _, Nat.zero_le _⟩) hP hD hS hA [1, 3] [0, 2, 4, 5] [0, 4, 1, 5, 2, 3] rfl rfl (by decide) (by decide) rfl (by decide) (fun H locs hP hD hS => ?_)
                refine lv_if_eq (tgt := 120) hx hb dX5_copy_102 (by decide) (fun c32 => ?_) (fun c32 => ?_)
                · have hm := it_t c32 hm
                  exact B_120 _ _ _ _ _ hm hP hD hS (lv_sub hl [0] rfl)
                · have hm := it_f c32 hm
                  refine lv_aload_n hx hb dX5_copy_105 rfl (lv_at hl 0 rfl) ?_
                  refine va_get (D := D) (ci := 5) (v := .ref (ad 13)) (C := RX5) (T := TX5) (N := 17) hx hb htg inX5 hown hK hP 0 rfl rfl 4 (by decide) (htg _ q_1_192) (fun _ h9 => h9) rfl dX5_copy_106 ?_
                  refine lv_iload_n hx hb dX5_copy_109 rfl (lv_at hl 2 rfl) ?_
                  refine lv_iload hx hb dX5_copy_110 (lv_at hl 4 rfl) ?_
                  refine lv_iload hx hb dX5_copy_112 (lv_at hl 5 rfl) ?_
                  obtain ⟨o33, ho34, hm⟩ := bd_s hm
                  refine xr_i (wr := [((ad 0), e_X5 ad t), ((ad 14), eI cA 8 t_shelves_holding), ((ad 16), eJ cA 320 t_shelves_elements), ((ad 19), eI cA 5 t_refusals)]) (wn := [((ad 0), e_X5 ad t), ((ad 13), e_X0 (ad 14) (ad 15) (ad 16)), ((ad 14), eI cA 8 t_shelves_holding), ((ad 15), eI cA 8 t_shelves_sizes), ((ad 16), eJ cA 320 t_shelves_elements), ((ad 19), eI cA 5 t_refusals)]) (va_runVN (As := [.int l2, .int l4, .int l5]) (rest := []) ⟨hx, hb, hml, hown, htg⟩ (c_X0_hasPlaces l D cA _ fu (ad 13) (ad 14) (ad 15) (ad 16) t_shelves_sizes l2 l4 l5 o33 ho34) ⟨va_cnB 3 htg (gU q_2_45) rfl rfl rfl (hN _ q_2_42) (htg _ q_1_3) hd_X0_hasPlaces.2 ⟨Nat.le_of_ble_eq_true rfl, Nat.le_of_ble_eq_true rfl⟩, htg _ q_2_44, htg _ q_p1_5⟩ (xpV hN hK hP hD [1, 3] rfl (by decide) rfl rfl) rfl rfl hl.1 rfl (lv_room (Nat.le_of_ble_eq_true rfl)) dX5_copy_114 ⟨Nat.zero_le _, Nat.zero_le _⟩) hP hD hS hA [1, 3] [0, 2, 4, 5] [0, 4, 1, 5, 2, 3] rfl rfl (by decide) (by decide) rfl (by decide) (fun H locs hP hD hS => ?_)
                  refine lv_if_ne (tgt := 127) hx hb dX5_copy_117 (by decide) (fun c35 => ?_) (fun c35 => ?_)
                  · have hm := it_f c35 hm
                    refine lv_aload_n hx hb dX5_copy_127 rfl (lv_at hl 0 rfl) ?_
                    refine va_get (D := D) (ci := 5) (v := .ref (ad 13)) (C := RX5) (T := TX5) (N := 17) hx hb htg inX5 hown hK hP 0 rfl rfl 4 (by decide) (htg _ q_1_192) (fun _ h9 => h9) rfl dX5_copy_128 ?_
                    refine lv_iload_n hx hb dX5_copy_131 rfl (lv_at hl 1 rfl) ?_
                    refine lv_iload_n hx hb dX5_copy_132 rfl (lv_at hl 2 rfl) ?_
                    refine lv_iload_n hx hb dX5_copy_133 rfl (lv_at hl 3 rfl) ?_
                    refine lv_iload hx hb dX5_copy_134 (lv_at hl 4 rfl) ?_
                    refine lv_iload hx hb dX5_copy_136 (lv_at hl 5 rfl) ?_
                    obtain ⟨o36, ho37, hm⟩ := bd_s hm
                    refine xr_v (wr := [((ad 0), e_X5 ad t), ((ad 14), eI cA 8 t_shelves_holding), ((ad 19), eI cA 5 t_refusals)]) (wn := [((ad 0), e_X5 ad t), ((ad 13), e_X0 (ad 14) (ad 15) (ad 16)), ((ad 14), eI cA 8 t_shelves_holding), ((ad 15), eI cA 8 t_shelves_sizes), ((ad 16), eJ cA 320 o36), ((ad 19), eI cA 5 t_refusals)]) (va_runVN (As := [.int l1, .int l2, .int l3, .int l4, .int l5]) (rest := []) ⟨hx, hb, hml, hown, htg⟩ (c_X0_copyElements l D cA _ fu (ad 13) (ad 14) (ad 15) (ad 16) t_shelves_sizes t_shelves_elements l1 l2 l3 l4 l5 o36 ho37) ⟨va_cnB 5 htg (gU q_2_66) rfl rfl rfl (hN _ q_2_63) (htg _ q_1_3) hd_X0_copyElements.2 ⟨Nat.le_of_ble_eq_true rfl, Nat.le_of_ble_eq_true rfl⟩, htg _ q_2_65, htg _ q_p1_8⟩ (xpV hN hK hP hD [1, 3, 4] rfl (by decide) rfl rfl) rfl rfl hl.1 rfl (lv_room (Nat.le_of_ble_eq_true rfl)) dX5_copy_138 ⟨Nat.zero_le _, Nat.zero_le _⟩) hP hD hS hA [1, 3, 4] [0, 2, 5] [0, 3, 1, 4, 5, 2] rfl rfl (by decide) (by decide) rfl (by decide) (fun H locs hP hD hS => ?_)
                    refine lv_iload hx hb dX5_copy_141 (lv_at hl 5 rfl) ?_
                    rw [hQ]
                    exact W.iret (v := l5) hx hb hr (fun t9 ht hW => ⟨⟨l5, (o36, t_refusals), rfl, (Option.some.inj hm), by rw [ht]; exact hP, va_K.moved hW.alike hK, hD⟩, hS.F ht⟩) hS.2.2 dX5_copy_143
                  · have hm := it_t c35 hm
                    exact B_120 _ _ _ _ _ hm hP hD hS (lv_sub hl [0] rfl)
              · have hm := it_f c29 hm
                exact B_84 _ _ _ _ _ hm hP hD hS (lv_sub hl [0] rfl)
          · have hm := it_f c23 hm
            exact B_55 _ _ _ _ _ hm hP hD hS (lv_sub hl [0] rfl)
    · have hm := it_t c14 hm
      exact B_14 _ _ _ _ _ hm hP hD hS (lv_sub hl [0] rfl)
def m_X5_element (fu : Nat) (t : Nat → Int32) (t_shelves_sizes : Nat → Int32) (t_shelves_elements : Nat → Int64) (l1 : Int32) (l2 : Int32) : Option (Int64 × Unit) :=
  (m_X0_elementAt fu t_shelves_sizes t_shelves_elements l1 l2).bind fun o1 =>
  some (o1.1, ())
abbrev rm_X5_element : Room := ({ frames := 4, cells := 0, slots := 0, locals := 87 } : Room)
abbrev w0_X5_element (cA : Nat → ClassId) (ad : Nat → Nat) (t : Nat → Int32) (t_shelves_sizes : Nat → Int32) (t_shelves_elements : Nat → Int64) : va_W := [((ad 0), e_X5 ad t), ((ad 13), e_X0 (ad 14) (ad 15) (ad 16)), ((ad 15), eI cA 8 t_shelves_sizes), ((ad 16), eJ cA 320 t_shelves_elements)]
abbrev w1_X5_element (cA : Nat → ClassId) (ad : Nat → Nat) (t : Nat → Int32) (t_shelves_sizes : Nat → Int32) (t_shelves_elements : Nat → Int64) (u : Unit) : va_W := [((ad 0), e_X5 ad t), ((ad 13), e_X0 (ad 14) (ad 15) (ad 16)), ((ad 15), eI cA 8 t_shelves_sizes), ((ad 16), eJ cA 320 t_shelves_elements)]
theorem hd_X5_element : yX5_element.cls = RX5 ∧ yX5_element.cls ≠ "java/lang/invoke/MethodHandle" ∧ yX5_element.cls ≠ "java/lang/invoke/VarHandle" ∧ (parseMethodDescriptor yX5_element.desc).map (fun d => d.parameters.length) = some 2 := by decide +kernel
set_option maxHeartbeats 40000000 in
set_option maxRecDepth 100000 in
theorem c_X5_element (l : Launch) (D : va_G) (cA : Nat → ClassId) (sz : Nat) (fu : Nat) (ad : Nat → Nat) (t : Nat → Int32) (t_shelves_sizes : Nat → Int32) (t_shelves_elements : Nat → Int64) (l1 : Int32) (l2 : Int32) (out : Int64 × Unit) (hm : m_X5_element fu t t_shelves_sizes t_shelves_elements l1 l2 = some out) : ML l yX5_element (wU yX5_element cX5_element 3 ((Option.some Jvm.ClassFile.FieldType.long))) rm_X5_element D cA sz [.ref (ad 0), .int l1, .int l2] (w0_X5_element cA ad t t_shelves_sizes t_shelves_elements) out (w1_X5_element cA ad t t_shelves_sizes t_shelves_elements) := by
  refine Met.ofW (cc := cX5_element) (maxL := 3) (ret := (Option.some Jvm.ClassFile.FieldType.long)) (by decide) rfl ?_
  intro p e s m args below meth c s₁ B hml hv
  obtain ⟨hargs, hsz, hP, hK, hD0, hN⟩ := hv
  have hx := B.exec
  have hb := B.bytes
  have hr := B.returns
  have htg : ∀ w ∈ gw, w.before args s = true := fun w h => atoms_spec (ws := wU yX5_element cX5_element 3 ((Option.some Jvm.ClassFile.FieldType.long))) B.pre w (List.mem_cons_of_mem _ h)
  have hown : s.vm.findClass RX5 = some m.cls := findClass_of_methodNamed B.named
  have hlocks := B.notSynchronized
  subst hsz
  have hD := hD0.self (sz := s.heap.size)
  have hA : ∀ q : Nat, s.heap.size ≤ q → va_A (w0_X5_element cA ad t t_shelves_sizes t_shelves_elements) s.heap.size q := fun q h => Or.inr h
  have hS : va_S (va_A (w0_X5_element cA ad t t_shelves_sizes t_shelves_elements) s.heap.size) s.heap s.heap [] := va_S.rf
  generalize va_A (w0_X5_element cA ad t t_shelves_sizes t_shelves_elements) s.heap.size = A at hA hD hS ⊢
  obtain ⟨Q, hQ⟩ : ∃ Q : State → Prop, Q = MQ below (va_Ql (fun (r : Int64) (u : Unit) => (r, u) = out) (pst0 D cA A (w1_X5_element cA ad t t_shelves_sizes t_shelves_elements)) A) args s 0 0 A := ⟨_, rfl⟩
  refine (?_ : W p l e rm_X5_element s m args below meth c s.heap [] 0 0 (MQ below (va_Ql (fun (r : Int64) (u : Unit) => (r, u) = out) (pst0 D cA A (w1_X5_element cA ad t t_shelves_sizes t_shelves_elements)) A) args s 0 0 A) (entryFrame m args 3))
  rw [← hQ]
  have hP : va_P D CL [((ad 0), e_X5 ad t), ((ad 13), e_X0 (ad 14) (ad 15) (ad 16)), ((ad 15), eI cA 8 t_shelves_sizes), ((ad 16), eJ cA 320 t_shelves_elements)] s.heap := hP
  have hD : va_D A [((ad 0), e_X5 ad t), ((ad 13), e_X0 (ad 14) (ad 15) (ad 16)), ((ad 15), eI cA 8 t_shelves_sizes), ((ad 16), eJ cA 320 t_shelves_elements)] := hD
  unfold m_X5_element at hm
  subst hargs
  have hl := lv_entry ([.ref (ad 0), .int l1, .int l2]) (n := 3) (Nat.le_of_ble_eq_true rfl)
  rw [lg_entry_eq]
  generalize (lg_sl ([.ref (ad 0), .int l1, .int l2]) ++ List.replicate (3 - (lg_sl ([.ref (ad 0), .int l1, .int l2])).length) Slot.unset).toArray = ls at hl ⊢
  have hl : lv_has ls 3 [(0, .ref (ad 0)), (1, .int l1), (2, .int l2)] := hl
  refine lv_aload_n hx hb dX5_element_0 rfl (lv_at hl 0 rfl) ?_
  refine va_get (D := D) (ci := 5) (v := .ref (ad 13)) (C := RX5) (T := TX5) (N := 17) hx hb htg inX5 hown hK hP 0 rfl rfl 4 (by decide) (htg _ q_1_192) (fun _ h9 => h9) rfl dX5_element_1 ?_
  refine lv_iload_n hx hb dX5_element_4 rfl (lv_at hl 1 rfl) ?_
  refine lv_iload_n hx hb dX5_element_5 rfl (lv_at hl 2 rfl) ?_
  obtain ⟨o1, ho2, hm⟩ := bd_s hm
  refine xr_l (wr := [((ad 0), e_X5 ad t)]) (wn := [((ad 0), e_X5 ad t), ((ad 13), e_X0 (ad 14) (ad 15) (ad 16)), ((ad 15), eI cA 8 t_shelves_sizes), ((ad 16), eJ cA 320 t_shelves_elements)]) (va_runVN (As := [.int l1, .int l2]) (rest := []) ⟨hx, hb, hml, hown, htg⟩ (c_X0_elementAt l D cA _ fu (ad 13) (ad 14) (ad 15) (ad 16) t_shelves_sizes t_shelves_elements l1 l2 o1 ho2) ⟨va_cnB 2 htg (gU q_2_77) rfl rfl rfl (hN _ q_2_74) (htg _ q_1_3) hd_X0_elementAt.2 ⟨Nat.le_of_ble_eq_true rfl, Nat.le_of_ble_eq_true rfl⟩, htg _ q_2_76, htg _ q_p1_9⟩ (xpV hN hK hP hD [1, 2, 3] rfl (by decide) rfl rfl) rfl rfl hl.1 rfl (lv_room (Nat.le_of_ble_eq_true rfl)) dX5_element_6 ⟨Nat.zero_le _, Nat.zero_le _⟩) hP hD hS hA [1, 2, 3] [0] [0, 1, 2, 3] rfl rfl (by decide) (by decide) rfl (by decide) (fun H locs hP hD hS => ?_)
  rw [hQ]
  exact W.lret (v := o1.1) hx hb hr (fun t9 ht hW => ⟨⟨o1.1, (), rfl, (Option.some.inj hm), by rw [ht]; exact hP, va_K.moved hW.alike hK, hD⟩, hS.F ht⟩) hS.2.2 dX5_element_9
def m_X5_holds (fu : Nat) (t : Nat → Int32) (t_shelves_holding : Nat → Int32) (l1 : Int32) : Option (Int32 × Unit) :=
  (m_X0_holdingOf fu t_shelves_holding l1).bind fun o1 =>
  some (o1.1, ())
abbrev rm_X5_holds : Room := ({ frames := 3, cells := 0, slots := 0, locals := 63 } : Room)
abbrev w0_X5_holds (cA : Nat → ClassId) (ad : Nat → Nat) (t : Nat → Int32) (t_shelves_holding : Nat → Int32) : va_W := [((ad 0), e_X5 ad t), ((ad 13), e_X0 (ad 14) (ad 15) (ad 16)), ((ad 14), eI cA 8 t_shelves_holding)]
abbrev w1_X5_holds (cA : Nat → ClassId) (ad : Nat → Nat) (t : Nat → Int32) (t_shelves_holding : Nat → Int32) (u : Unit) : va_W := [((ad 0), e_X5 ad t), ((ad 13), e_X0 (ad 14) (ad 15) (ad 16)), ((ad 14), eI cA 8 t_shelves_holding)]
theorem hd_X5_holds : yX5_holds.cls = RX5 ∧ yX5_holds.cls ≠ "java/lang/invoke/MethodHandle" ∧ yX5_holds.cls ≠ "java/lang/invoke/VarHandle" ∧ (parseMethodDescriptor yX5_holds.desc).map (fun d => d.parameters.length) = some 1 := by decide +kernel
set_option maxHeartbeats 40000000 in
set_option maxRecDepth 100000 in
theorem c_X5_holds (l : Launch) (D : va_G) (cA : Nat → ClassId) (sz : Nat) (fu : Nat) (ad : Nat → Nat) (t : Nat → Int32) (t_shelves_holding : Nat → Int32) (l1 : Int32) (out : Int32 × Unit) (hm : m_X5_holds fu t t_shelves_holding l1 = some out) : MI l yX5_holds (wU yX5_holds cX5_holds 2 ((Option.some Jvm.ClassFile.FieldType.int))) rm_X5_holds D cA sz [.ref (ad 0), .int l1] (w0_X5_holds cA ad t t_shelves_holding) out (w1_X5_holds cA ad t t_shelves_holding) := by
  refine Met.ofW (cc := cX5_holds) (maxL := 2) (ret := (Option.some Jvm.ClassFile.FieldType.int)) (by decide) rfl ?_
  intro p e s m args below meth c s₁ B hml hv
  obtain ⟨hargs, hsz, hP, hK, hD0, hN⟩ := hv
  have hx := B.exec
  have hb := B.bytes
  have hr := B.returns
  have htg : ∀ w ∈ gw, w.before args s = true := fun w h => atoms_spec (ws := wU yX5_holds cX5_holds 2 ((Option.some Jvm.ClassFile.FieldType.int))) B.pre w (List.mem_cons_of_mem _ h)
  have hown : s.vm.findClass RX5 = some m.cls := findClass_of_methodNamed B.named
  have hlocks := B.notSynchronized
  subst hsz
  have hD := hD0.self (sz := s.heap.size)
  have hA : ∀ q : Nat, s.heap.size ≤ q → va_A (w0_X5_holds cA ad t t_shelves_holding) s.heap.size q := fun q h => Or.inr h
  have hS : va_S (va_A (w0_X5_holds cA ad t t_shelves_holding) s.heap.size) s.heap s.heap [] := va_S.rf
  generalize va_A (w0_X5_holds cA ad t t_shelves_holding) s.heap.size = A at hA hD hS ⊢
  obtain ⟨Q, hQ⟩ : ∃ Q : State → Prop, Q = MQ below (va_Qi (fun (r : Int32) (u : Unit) => (r, u) = out) (pst0 D cA A (w1_X5_holds cA ad t t_shelves_holding)) A) args s 0 0 A := ⟨_, rfl⟩
  refine (?_ : W p l e rm_X5_holds s m args below meth c s.heap [] 0 0 (MQ below (va_Qi (fun (r : Int32) (u : Unit) => (r, u) = out) (pst0 D cA A (w1_X5_holds cA ad t t_shelves_holding)) A) args s 0 0 A) (entryFrame m args 2))
  rw [← hQ]
  have hP : va_P D CL [((ad 0), e_X5 ad t), ((ad 13), e_X0 (ad 14) (ad 15) (ad 16)), ((ad 14), eI cA 8 t_shelves_holding)] s.heap := hP
  have hD : va_D A [((ad 0), e_X5 ad t), ((ad 13), e_X0 (ad 14) (ad 15) (ad 16)), ((ad 14), eI cA 8 t_shelves_holding)] := hD
  unfold m_X5_holds at hm
  subst hargs
  have hl := lv_entry ([.ref (ad 0), .int l1]) (n := 2) (Nat.le_of_ble_eq_true rfl)
  rw [lg_entry_eq]
  generalize (lg_sl ([.ref (ad 0), .int l1]) ++ List.replicate (2 - (lg_sl ([.ref (ad 0), .int l1])).length) Slot.unset).toArray = ls at hl ⊢
  have hl : lv_has ls 2 [(0, .ref (ad 0)), (1, .int l1)] := hl
  refine lv_aload_n hx hb dX5_holds_0 rfl (lv_at hl 0 rfl) ?_
  refine va_get (D := D) (ci := 5) (v := .ref (ad 13)) (C := RX5) (T := TX5) (N := 17) hx hb htg inX5 hown hK hP 0 rfl rfl 4 (by decide) (htg _ q_1_192) (fun _ h9 => h9) rfl dX5_holds_1 ?_
  refine lv_iload_n hx hb dX5_holds_4 rfl (lv_at hl 1 rfl) ?_
  obtain ⟨o1, ho2, hm⟩ := bd_s hm
  refine xr_i (wr := [((ad 0), e_X5 ad t)]) (wn := [((ad 0), e_X5 ad t), ((ad 13), e_X0 (ad 14) (ad 15) (ad 16)), ((ad 14), eI cA 8 t_shelves_holding)]) (va_runVN (As := [.int l1]) (rest := []) ⟨hx, hb, hml, hown, htg⟩ (c_X0_holdingOf l D cA _ fu (ad 13) (ad 14) (ad 15) (ad 16) t_shelves_holding l1 o1 ho2) ⟨va_cnB 1 htg (gU q_2_37) rfl rfl rfl (hN _ q_2_82) (htg _ q_1_3) hd_X0_holdingOf.2 ⟨Nat.le_of_ble_eq_true rfl, Nat.le_of_ble_eq_true rfl⟩, htg _ q_2_36, htg _ q_p1_3⟩ (xpV hN hK hP hD [1, 2] rfl (by decide) rfl rfl) rfl rfl hl.1 rfl (lv_room (Nat.le_of_ble_eq_true rfl)) dX5_holds_5 ⟨Nat.zero_le _, Nat.zero_le _⟩) hP hD hS hA [1, 2] [0] [0, 1, 2] rfl rfl (by decide) (by decide) rfl (by decide) (fun H locs hP hD hS => ?_)
  rw [hQ]
  exact W.iret (v := o1.1) hx hb hr (fun t9 ht hW => ⟨⟨o1.1, (), rfl, (Option.some.inj hm), by rw [ht]; exact hP, va_K.moved hW.alike hK, hD⟩, hS.F ht⟩) hS.2.2 dX5_holds_8
def m_X5_isVoice (fu : Nat) (t : Nat → Int32) (t_now : Nat → Int32) (l1 : Int32) : Option (Int32 × Unit) :=
  (m_X5_isWithin fu l1 (0 : Int32) (t_now 8 - (1 : Int32))).bind fun o1 =>
  gd (bz o1.1) (some (o1.1, ()))
abbrev rm_X5_isVoice : Room := ({ frames := 1, cells := 0, slots := 0, locals := 22 } : Room)
abbrev w0_X5_isVoice (cA : Nat → ClassId) (ad : Nat → Nat) (t : Nat → Int32) (t_now : Nat → Int32) : va_W := [((ad 0), e_X5 ad t), ((ad 1), e_X1 (ad 2) (ad 3) (ad 4) t_now)]
abbrev w1_X5_isVoice (cA : Nat → ClassId) (ad : Nat → Nat) (t : Nat → Int32) (t_now : Nat → Int32) (u : Unit) : va_W := [((ad 0), e_X5 ad t), ((ad 1), e_X1 (ad 2) (ad 3) (ad 4) t_now)]
theorem hd_X5_isVoice : yX5_isVoice.cls = RX5 ∧ yX5_isVoice.cls ≠ "java/lang/invoke/MethodHandle" ∧ yX5_isVoice.cls ≠ "java/lang/invoke/VarHandle" ∧ (parseMethodDescriptor yX5_isVoice.desc).map (fun d => d.parameters.length) = some 1 := by decide +kernel
set_option maxHeartbeats 40000000 in
set_option maxRecDepth 100000 in
theorem c_X5_isVoice (l : Launch) (D : va_G) (cA : Nat → ClassId) (sz : Nat) (fu : Nat) (ad : Nat → Nat) (t : Nat → Int32) (t_now : Nat → Int32) (l1 : Int32) (out : Int32 × Unit) (hm : m_X5_isVoice fu t t_now l1 = some out) : MI l yX5_isVoice (wU yX5_isVoice cX5_isVoice 2 ((Option.some Jvm.ClassFile.FieldType.boolean))) rm_X5_isVoice D cA sz [.ref (ad 0), .int l1] (w0_X5_isVoice cA ad t t_now) out (w1_X5_isVoice cA ad t t_now) := by
  refine Met.ofW (cc := cX5_isVoice) (maxL := 2) (ret := (Option.some Jvm.ClassFile.FieldType.boolean)) (by decide) rfl ?_
  intro p e s m args below meth c s₁ B hml hv
  obtain ⟨hargs, hsz, hP, hK, hD0, hN⟩ := hv
  have hx := B.exec
  have hb := B.bytes
  have hr := B.returns
  have htg : ∀ w ∈ gw, w.before args s = true := fun w h => atoms_spec (ws := wU yX5_isVoice cX5_isVoice 2 ((Option.some Jvm.ClassFile.FieldType.boolean))) B.pre w (List.mem_cons_of_mem _ h)
  have hown : s.vm.findClass RX5 = some m.cls := findClass_of_methodNamed B.named
  have hlocks := B.notSynchronized
  subst hsz
  have hD := hD0.self (sz := s.heap.size)
  have hA : ∀ q : Nat, s.heap.size ≤ q → va_A (w0_X5_isVoice cA ad t t_now) s.heap.size q := fun q h => Or.inr h
  have hS : va_S (va_A (w0_X5_isVoice cA ad t t_now) s.heap.size) s.heap s.heap [] := va_S.rf
  generalize va_A (w0_X5_isVoice cA ad t t_now) s.heap.size = A at hA hD hS ⊢
  obtain ⟨Q, hQ⟩ : ∃ Q : State → Prop, Q = MQ below (va_Qi (fun (r : Int32) (u : Unit) => (r, u) = out) (pst0 D cA A (w1_X5_isVoice cA ad t t_now)) A) args s 0 0 A := ⟨_, rfl⟩
  refine (?_ : W p l e rm_X5_isVoice s m args below meth c s.heap [] 0 0 (MQ below (va_Qi (fun (r : Int32) (u : Unit) => (r, u) = out) (pst0 D cA A (w1_X5_isVoice cA ad t t_now)) A) args s 0 0 A) (entryFrame m args 2))
  rw [← hQ]
  have hP : va_P D CL [((ad 0), e_X5 ad t), ((ad 1), e_X1 (ad 2) (ad 3) (ad 4) t_now)] s.heap := hP
  have hD : va_D A [((ad 0), e_X5 ad t), ((ad 1), e_X1 (ad 2) (ad 3) (ad 4) t_now)] := hD
  unfold m_X5_isVoice at hm
  subst hargs
  have hl := lv_entry ([.ref (ad 0), .int l1]) (n := 2) (Nat.le_of_ble_eq_true rfl)
  rw [lg_entry_eq]
  generalize (lg_sl ([.ref (ad 0), .int l1]) ++ List.replicate (2 - (lg_sl ([.ref (ad 0), .int l1])).length) Slot.unset).toArray = ls at hl ⊢
  have hl : lv_has ls 2 [(0, .ref (ad 0)), (1, .int l1)] := hl
  refine lv_iload_n hx hb dX5_isVoice_0 rfl (lv_at hl 1 rfl) ?_
  refine lv_iconst (v := (0 : Int32)) hx hb dX5_isVoice_1 (by decide) ?_
  refine lv_aload_n hx hb dX5_isVoice_2 rfl (lv_at hl 0 rfl) ?_
  refine va_get (D := D) (ci := 5) (v := .ref (ad 1)) (C := RX5) (T := TX5) (N := 17) hx hb htg inX5 hown hK hP 0 rfl rfl 0 (by decide) (htg _ q_1_188) (fun _ h9 => h9) rfl dX5_isVoice_3 ?_
  refine va_getN (D := D) (ci := 1) (v := .int (t_now 8)) (C := RX1) (T := TX1) (N := 12) hx hb htg inX1 hown hK hP 1 rfl rfl 8 (by decide) (va_Nw.use rfl (hN _ q_1_58)) (fun _ h9 => h9) rfl dX5_isVoice_6 ?_
  refine lv_iconst (v := (1 : Int32)) hx hb dX5_isVoice_9 (by decide) ?_
  refine lv_isub hx hb dX5_isVoice_10 ?_
  obtain ⟨o1, ho2, hm⟩ := bd_s hm
  refine xr_i (wr := [((ad 0), e_X5 ad t), ((ad 1), e_X1 (ad 2) (ad 3) (ad 4) t_now)]) (wn := [((ad 0), e_X5 ad t), ((ad 1), e_X1 (ad 2) (ad 3) (ad 4) t_now)]) (va_runS (As := [.int l1, .int (0 : Int32), .int (t_now 8 - (1 : Int32))]) (rest := []) ⟨hx, hb, hml, hown, htg⟩ (c_X5_isWithin l D cA _ fu l1 (0 : Int32) (t_now 8 - (1 : Int32)) o1 ho2) (cwS 3 htg (gS q_2_7 q_2_8 q_1_1 q_2_9) rfl rfl rfl hd_X5_isWithin ⟨Nat.le_of_ble_eq_true rfl, Nat.le_of_ble_eq_true rfl⟩) (xpS hN hK hP hD [] rfl (by decide)) rfl rfl hl.1 rfl (lv_room (Nat.le_of_ble_eq_true rfl)) dX5_isVoice_11 ⟨Nat.zero_le _, Nat.zero_le _⟩) hP hD hS hA [] [0, 1] [0, 1] rfl rfl (by decide) (by decide) rfl (by decide) (fun H locs hP hD hS => ?_)
  obtain ⟨hz3, hm⟩ := gd_s hm
  rw [hQ]
  exact W.zret (v := o1.1) hx hb hr (bz_nr hz3) (fun t9 ht hW => ⟨⟨o1.1, (), rfl, (Option.some.inj hm), by rw [ht]; exact hP, va_K.moved hW.alike hK, hD⟩, hS.F ht⟩) hS.2.2 dX5_isVoice_14
def b_X5_show_20 (fu : Nat) (t : Nat → Int32) (t_now : Nat → Int32) (t_shelves_holding : Nat → Int32) (t_shelves_sizes : Nat → Int32) (t_refusals : Nat → Int32) : Option (Int32 × ((Nat → Int32) × (Nat → Int32) × (Nat → Int32))) :=
  (m_X5_refuse fu t t_refusals (-2 : Int32)).bind fun o1 =>
    some (o1.1, (t_shelves_holding, t_shelves_sizes, o1.2))
def b_X5_show_27 (fu : Nat) (t : Nat → Int32) (t_now : Nat → Int32) (l1 : Int32) (l2 : Int32) (t_shelves_holding : Nat → Int32) (t_shelves_sizes : Nat → Int32) (t_refusals : Nat → Int32) : Option (Int32 × ((Nat → Int32) × (Nat → Int32) × (Nat → Int32))) :=
  (m_X0_putVoice fu t_shelves_holding t_shelves_sizes l1 l2).bind fun o3 =>
    some ((1 : Int32), (o3.1, o3.2, t_refusals))
def m_X5_show (fu : Nat) (t : Nat → Int32) (t_now : Nat → Int32) (t_shelves_holding : Nat → Int32) (t_shelves_sizes : Nat → Int32) (t_refusals : Nat → Int32) (l1 : Int32) (l2 : Int32) : Option (Int32 × ((Nat → Int32) × (Nat → Int32) × (Nat → Int32))) :=
  (m_X5_isShelf fu l1).bind fun o5 =>
  (if o5.1 = 0 then
    b_X5_show_20 fu t t_now t_shelves_holding t_shelves_sizes t_refusals
  else
    (if l2 = (-1 : Int32) then
      b_X5_show_27 fu t t_now l1 l2 t_shelves_holding t_shelves_sizes t_refusals
    else
      (m_X5_isVoice fu t t_now l2).bind fun o9 =>
      (if o9.1 = 0 then
        b_X5_show_20 fu t t_now t_shelves_holding t_shelves_sizes t_refusals
      else
        b_X5_show_27 fu t t_now l1 l2 t_shelves_holding t_shelves_sizes t_refusals)))
abbrev rm_X5_show : Room := ({ frames := 3, cells := 0, slots := 0, locals := 64 } : Room)
abbrev w0_X5_show (cA : Nat → ClassId) (ad : Nat → Nat) (t : Nat → Int32) (t_now : Nat → Int32) (t_shelves_holding : Nat → Int32) (t_shelves_sizes : Nat → Int32) (t_refusals : Nat → Int32) : va_W := [((ad 0), e_X5 ad t), ((ad 1), e_X1 (ad 2) (ad 3) (ad 4) t_now), ((ad 13), e_X0 (ad 14) (ad 15) (ad 16)), ((ad 14), eI cA 8 t_shelves_holding), ((ad 15), eI cA 8 t_shelves_sizes), ((ad 19), eI cA 5 t_refusals)]
abbrev w1_X5_show (cA : Nat → ClassId) (ad : Nat → Nat) (t : Nat → Int32) (t_now : Nat → Int32) (u : (Nat → Int32) × (Nat → Int32) × (Nat → Int32)) : va_W := [((ad 0), e_X5 ad t), ((ad 1), e_X1 (ad 2) (ad 3) (ad 4) t_now), ((ad 13), e_X0 (ad 14) (ad 15) (ad 16)), ((ad 14), eI cA 8 u.1), ((ad 15), eI cA 8 u.2.1), ((ad 19), eI cA 5 u.2.2)]
theorem hd_X5_show : yX5_show.cls = RX5 ∧ yX5_show.cls ≠ "java/lang/invoke/MethodHandle" ∧ yX5_show.cls ≠ "java/lang/invoke/VarHandle" ∧ (parseMethodDescriptor yX5_show.desc).map (fun d => d.parameters.length) = some 2 := by decide +kernel
set_option maxHeartbeats 40000000 in
set_option maxRecDepth 100000 in
theorem c_X5_show (l : Launch) (D : va_G) (cA : Nat → ClassId) (sz : Nat) (fu : Nat) (ad : Nat → Nat) (t : Nat → Int32) (t_now : Nat → Int32) (t_shelves_holding : Nat → Int32) (t_shelves_sizes : Nat → Int32) (t_refusals : Nat → Int32) (l1 : Int32) (l2 : Int32) (out : Int32 × ((Nat → Int32) × (Nat → Int32) × (Nat → Int32))) (hm : m_X5_show fu t t_now t_shelves_holding t_shelves_sizes t_refusals l1 l2 = some out) : MI l yX5_show (wU yX5_show cX5_show 3 ((Option.some Jvm.ClassFile.FieldType.int))) rm_X5_show D cA sz [.ref (ad 0), .int l1, .int l2] (w0_X5_show cA ad t t_now t_shelves_holding t_shelves_sizes t_refusals) out (w1_X5_show cA ad t t_now) := by
  refine Met.ofW (cc := cX5_show) (maxL := 3) (ret := (Option.some Jvm.ClassFile.FieldType.int)) (by decide) rfl ?_
  intro p e s m args below meth c s₁ B hml hv
  obtain ⟨hargs, hsz, hP, hK, hD0, hN⟩ := hv
  have hx := B.exec
  have hb := B.bytes
  have hr := B.returns
  have htg : ∀ w ∈ gw, w.before args s = true := fun w h => atoms_spec (ws := wU yX5_show cX5_show 3 ((Option.some Jvm.ClassFile.FieldType.int))) B.pre w (List.mem_cons_of_mem _ h)
  have hown : s.vm.findClass RX5 = some m.cls := findClass_of_methodNamed B.named
  have hlocks := B.notSynchronized
  subst hsz
  have hD := hD0.self (sz := s.heap.size)
  have hA : ∀ q : Nat, s.heap.size ≤ q → va_A (w0_X5_show cA ad t t_now t_shelves_holding t_shelves_sizes t_refusals) s.heap.size q := fun q h => Or.inr h
  have hS : va_S (va_A (w0_X5_show cA ad t t_now t_shelves_holding t_shelves_sizes t_refusals) s.heap.size) s.heap s.heap [] := va_S.rf
  generalize va_A (w0_X5_show cA ad t t_now t_shelves_holding t_shelves_sizes t_refusals) s.heap.size = A at hA hD hS ⊢
  obtain ⟨Q, hQ⟩ : ∃ Q : State → Prop, Q = MQ below (va_Qi (fun (r : Int32) (u : (Nat → Int32) × (Nat → Int32) × (Nat → Int32)) => (r, u) = out) (pst0 D cA A (w1_X5_show cA ad t t_now)) A) args s 0 0 A := ⟨_, rfl⟩
  refine (?_ : W p l e rm_X5_show s m args below meth c s.heap [] 0 0 (MQ below (va_Qi (fun (r : Int32) (u : (Nat → Int32) × (Nat → Int32) × (Nat → Int32)) => (r, u) = out) (pst0 D cA A (w1_X5_show cA ad t t_now)) A) args s 0 0 A) (entryFrame m args 3))
  rw [← hQ]
  have hP : va_P D CL [((ad 0), e_X5 ad t), ((ad 1), e_X1 (ad 2) (ad 3) (ad 4) t_now), ((ad 13), e_X0 (ad 14) (ad 15) (ad 16)), ((ad 14), eI cA 8 t_shelves_holding), ((ad 15), eI cA 8 t_shelves_sizes), ((ad 19), eI cA 5 t_refusals)] s.heap := hP
  have hD : va_D A [((ad 0), e_X5 ad t), ((ad 1), e_X1 (ad 2) (ad 3) (ad 4) t_now), ((ad 13), e_X0 (ad 14) (ad 15) (ad 16)), ((ad 14), eI cA 8 t_shelves_holding), ((ad 15), eI cA 8 t_shelves_sizes), ((ad 19), eI cA 5 t_refusals)] := hD
  have B_20 : ∀ (t_shelves_holding : Nat → Int32) (t_shelves_sizes : Nat → Int32) (t_refusals : Nat → Int32) (H : Heap) (locs : List Loc) (ls : Array Slot), b_X5_show_20 fu t t_now t_shelves_holding t_shelves_sizes t_refusals = some out → va_P D CL [((ad 0), e_X5 ad t), ((ad 1), e_X1 (ad 2) (ad 3) (ad 4) t_now), ((ad 13), e_X0 (ad 14) (ad 15) (ad 16)), ((ad 14), eI cA 8 t_shelves_holding), ((ad 15), eI cA 8 t_shelves_sizes), ((ad 19), eI cA 5 t_refusals)] H → va_D A [((ad 0), e_X5 ad t), ((ad 1), e_X1 (ad 2) (ad 3) (ad 4) t_now), ((ad 13), e_X0 (ad 14) (ad 15) (ad 16)), ((ad 14), eI cA 8 t_shelves_holding), ((ad 15), eI cA 8 t_shelves_sizes), ((ad 19), eI cA 5 t_refusals)] → va_S A s.heap H locs → lv_has ls 3 [(0, .ref (ad 0))] → W p l e rm_X5_show s m args below meth c H locs 0 0 Q (F0 m 20 ls []) := by
    intro  t_shelves_holding t_shelves_sizes t_refusals H locs ls hm hP hD hS hl
    unfold b_X5_show_20 at hm
    refine lv_aload_n hx hb dX5_show_20 rfl (lv_at hl 0 rfl) ?_
    refine lv_bipush (v := (-2 : Int32)) hx hb dX5_show_21 (by decide) ?_
    obtain ⟨o1, ho2, hm⟩ := bd_s hm
    refine xr_i (wr := [((ad 1), e_X1 (ad 2) (ad 3) (ad 4) t_now), ((ad 13), e_X0 (ad 14) (ad 15) (ad 16)), ((ad 14), eI cA 8 t_shelves_holding), ((ad 15), eI cA 8 t_shelves_sizes)]) (wn := [((ad 0), e_X5 ad t), ((ad 1), e_X1 (ad 2) (ad 3) (ad 4) t_now), ((ad 13), e_X0 (ad 14) (ad 15) (ad 16)), ((ad 14), eI cA 8 t_shelves_holding), ((ad 15), eI cA 8 t_shelves_sizes), ((ad 19), eI cA 5 o1.2)]) (va_runV (As := [.int (-2 : Int32)]) (rest := []) ⟨hx, hb, hml, hown, htg⟩ (c_X5_refuse l D cA _ fu ad t t_refusals (-2 : Int32) o1 ho2) (cwV 1 htg (gV q_2_10 q_2_12 q_p1_0 q_1_1 q_2_13) rfl rfl rfl hd_X5_refuse ⟨Nat.le_of_ble_eq_true rfl, Nat.le_of_ble_eq_true rfl⟩) (xpV hN hK hP hD [0, 5] rfl (by decide) rfl rfl) rfl rfl hl.1 rfl (lv_room (Nat.le_of_ble_eq_true rfl)) dX5_show_23 ⟨Nat.zero_le _, Nat.zero_le _⟩) hP hD hS hA [0, 5] [1, 2, 3, 4] [4, 0, 1, 2, 3, 5] rfl rfl (by decide) (by decide) rfl (by decide) (fun H locs hP hD hS => ?_)
    rw [hQ]
    exact W.iret (v := o1.1) hx hb hr (fun t9 ht hW => ⟨⟨o1.1, (t_shelves_holding, t_shelves_sizes, o1.2), rfl, (Option.some.inj hm), by rw [ht]; exact hP, va_K.moved hW.alike hK, hD⟩, hS.F ht⟩) hS.2.2 dX5_show_26
  have B_27 : ∀ (l1 : Int32) (l2 : Int32) (t_shelves_holding : Nat → Int32) (t_shelves_sizes : Nat → Int32) (t_refusals : Nat → Int32) (H : Heap) (locs : List Loc) (ls : Array Slot), b_X5_show_27 fu t t_now l1 l2 t_shelves_holding t_shelves_sizes t_refusals = some out → va_P D CL [((ad 0), e_X5 ad t), ((ad 1), e_X1 (ad 2) (ad 3) (ad 4) t_now), ((ad 13), e_X0 (ad 14) (ad 15) (ad 16)), ((ad 14), eI cA 8 t_shelves_holding), ((ad 15), eI cA 8 t_shelves_sizes), ((ad 19), eI cA 5 t_refusals)] H → va_D A [((ad 0), e_X5 ad t), ((ad 1), e_X1 (ad 2) (ad 3) (ad 4) t_now), ((ad 13), e_X0 (ad 14) (ad 15) (ad 16)), ((ad 14), eI cA 8 t_shelves_holding), ((ad 15), eI cA 8 t_shelves_sizes), ((ad 19), eI cA 5 t_refusals)] → va_S A s.heap H locs → lv_has ls 3 [(0, .ref (ad 0)), (1, .int l1), (2, .int l2)] → W p l e rm_X5_show s m args below meth c H locs 0 0 Q (F0 m 27 ls []) := by
    intro  l1 l2 t_shelves_holding t_shelves_sizes t_refusals H locs ls hm hP hD hS hl
    unfold b_X5_show_27 at hm
    refine lv_aload_n hx hb dX5_show_27 rfl (lv_at hl 0 rfl) ?_
    refine va_get (D := D) (ci := 5) (v := .ref (ad 13)) (C := RX5) (T := TX5) (N := 17) hx hb htg inX5 hown hK hP 0 rfl rfl 4 (by decide) (htg _ q_1_192) (fun _ h9 => h9) rfl dX5_show_28 ?_
    refine lv_iload_n hx hb dX5_show_31 rfl (lv_at hl 1 rfl) ?_
    refine lv_iload_n hx hb dX5_show_32 rfl (lv_at hl 2 rfl) ?_
    obtain ⟨o3, ho4, hm⟩ := bd_s hm
    refine xr_v (wr := [((ad 0), e_X5 ad t), ((ad 1), e_X1 (ad 2) (ad 3) (ad 4) t_now), ((ad 19), eI cA 5 t_refusals)]) (wn := [((ad 0), e_X5 ad t), ((ad 1), e_X1 (ad 2) (ad 3) (ad 4) t_now), ((ad 13), e_X0 (ad 14) (ad 15) (ad 16)), ((ad 14), eI cA 8 o3.1), ((ad 15), eI cA 8 o3.2), ((ad 19), eI cA 5 t_refusals)]) (va_runVN (As := [.int l1, .int l2]) (rest := []) ⟨hx, hb, hml, hown, htg⟩ (c_X0_putVoice l D cA _ fu (ad 13) (ad 14) (ad 15) (ad 16) t_shelves_holding t_shelves_sizes l1 l2 o3 ho4) ⟨va_cnB 2 htg (gU q_2_94) rfl rfl rfl (hN _ q_2_91) (htg _ q_1_3) hd_X0_putVoice.2 ⟨Nat.le_of_ble_eq_true rfl, Nat.le_of_ble_eq_true rfl⟩, htg _ q_2_93, htg _ q_p1_11⟩ (xpV hN hK hP hD [2, 3, 4] rfl (by decide) rfl rfl) rfl rfl hl.1 rfl (lv_room (Nat.le_of_ble_eq_true rfl)) dX5_show_33 ⟨Nat.zero_le _, Nat.zero_le _⟩) hP hD hS hA [2, 3, 4] [0, 1, 5] [0, 1, 3, 4, 5, 2] rfl rfl (by decide) (by decide) rfl (by decide) (fun H locs hP hD hS => ?_)
    refine lv_iconst (v := (1 : Int32)) hx hb dX5_show_36 (by decide) ?_
    rw [hQ]
    exact W.iret (v := (1 : Int32)) hx hb hr (fun t9 ht hW => ⟨⟨(1 : Int32), (o3.1, o3.2, t_refusals), rfl, (Option.some.inj hm), by rw [ht]; exact hP, va_K.moved hW.alike hK, hD⟩, hS.F ht⟩) hS.2.2 dX5_show_37
  unfold m_X5_show at hm
  subst hargs
  have hl := lv_entry ([.ref (ad 0), .int l1, .int l2]) (n := 3) (Nat.le_of_ble_eq_true rfl)
  rw [lg_entry_eq]
  generalize (lg_sl ([.ref (ad 0), .int l1, .int l2]) ++ List.replicate (3 - (lg_sl ([.ref (ad 0), .int l1, .int l2])).length) Slot.unset).toArray = ls at hl ⊢
  have hl : lv_has ls 3 [(0, .ref (ad 0)), (1, .int l1), (2, .int l2)] := hl
  refine lv_iload_n hx hb dX5_show_0 rfl (lv_at hl 1 rfl) ?_
  obtain ⟨o5, ho6, hm⟩ := bd_s hm
  refine xr_i (wr := [((ad 0), e_X5 ad t), ((ad 1), e_X1 (ad 2) (ad 3) (ad 4) t_now), ((ad 13), e_X0 (ad 14) (ad 15) (ad 16)), ((ad 14), eI cA 8 t_shelves_holding), ((ad 15), eI cA 8 t_shelves_sizes), ((ad 19), eI cA 5 t_refusals)]) (wn := [((ad 0), e_X5 ad t), ((ad 1), e_X1 (ad 2) (ad 3) (ad 4) t_now), ((ad 13), e_X0 (ad 14) (ad 15) (ad 16)), ((ad 14), eI cA 8 t_shelves_holding), ((ad 15), eI cA 8 t_shelves_sizes), ((ad 19), eI cA 5 t_refusals)]) (va_runS (As := [.int l1]) (rest := []) ⟨hx, hb, hml, hown, htg⟩ (c_X5_isShelf l D cA _ fu l1 o5 ho6) (cwS 1 htg (gS q_2_4 q_2_5 q_1_1 q_2_6) rfl rfl rfl hd_X5_isShelf ⟨Nat.le_of_ble_eq_true rfl, Nat.le_of_ble_eq_true rfl⟩) (xpS hN hK hP hD [] rfl (by decide)) rfl rfl hl.1 rfl (lv_room (Nat.le_of_ble_eq_true rfl)) dX5_show_1 ⟨Nat.zero_le _, Nat.zero_le _⟩) hP hD hS hA [] [0, 1, 2, 3, 4, 5] [0, 1, 2, 3, 4, 5] rfl rfl (by decide) (by decide) rfl (by decide) (fun H locs hP hD hS => ?_)
  refine lv_if_eq (tgt := 20) hx hb dX5_show_4 (by decide) (fun c7 => ?_) (fun c7 => ?_)
  · have hm := it_t c7 hm
    exact B_20 _ _ _ _ _ _ hm hP hD hS (lv_sub hl [0] rfl)
  · have hm := it_f c7 hm
    refine lv_iload_n hx hb dX5_show_7 rfl (lv_at hl 2 rfl) ?_
    refine lv_iconst (v := (-1 : Int32)) hx hb dX5_show_8 (by decide) ?_
    refine lv_icmp_eq (tgt := 27) hx hb dX5_show_9 (by decide) (fun c8 => ?_) (fun c8 => ?_)
    · have hm := it_t c8 hm
      exact B_27 _ _ _ _ _ _ _ _ hm hP hD hS (lv_sub hl [0, 1, 2] rfl)
    · have hm := it_f c8 hm
      refine lv_aload_n hx hb dX5_show_12 rfl (lv_at hl 0 rfl) ?_
      refine lv_iload_n hx hb dX5_show_13 rfl (lv_at hl 2 rfl) ?_
      obtain ⟨o9, ho10, hm⟩ := bd_s hm
      refine xr_i (wr := [((ad 13), e_X0 (ad 14) (ad 15) (ad 16)), ((ad 14), eI cA 8 t_shelves_holding), ((ad 15), eI cA 8 t_shelves_sizes), ((ad 19), eI cA 5 t_refusals)]) (wn := [((ad 0), e_X5 ad t), ((ad 1), e_X1 (ad 2) (ad 3) (ad 4) t_now), ((ad 13), e_X0 (ad 14) (ad 15) (ad 16)), ((ad 14), eI cA 8 t_shelves_holding), ((ad 15), eI cA 8 t_shelves_sizes), ((ad 19), eI cA 5 t_refusals)]) (va_runV (As := [.int l2]) (rest := []) ⟨hx, hb, hml, hown, htg⟩ (c_X5_isVoice l D cA _ fu ad t t_now l2 o9 ho10) (cwV 1 htg (gV q_2_87 q_2_89 q_p1_10 q_1_1 q_2_90) rfl rfl rfl hd_X5_isVoice ⟨Nat.le_of_ble_eq_true rfl, Nat.le_of_ble_eq_true rfl⟩) (xpV hN hK hP hD [0, 1] rfl (by decide) rfl rfl) rfl rfl hl.1 rfl (lv_room (Nat.le_of_ble_eq_true rfl)) dX5_show_14 ⟨Nat.zero_le _, Nat.zero_le _⟩) hP hD hS hA [0, 1] [2, 3, 4, 5] [4, 5, 0, 1, 2, 3] rfl rfl (by decide) (by decide) rfl (by decide) (fun H locs hP hD hS => ?_)
      refine lv_if_ne (tgt := 27) hx hb dX5_show_17 (by decide) (fun c11 => ?_) (fun c11 => ?_)
      · have hm := it_f c11 hm
        exact B_27 _ _ _ _ _ _ _ _ hm hP hD hS (lv_sub hl [0, 1, 2] rfl)
      · have hm := it_t c11 hm
        exact B_20 _ _ _ _ _ _ hm hP hD hS (lv_sub hl [0] rfl)
def b_X5_says_14 (fu : Nat) (t : Nat → Int32) (t_now : Nat → Int32) (t_now_kinds : Nat → Int32) (t_now_pitches : Nat → Int32) (t_shelves_holding : Nat → Int32) (t_refusals : Nat → Int32) (t_trial : Nat → Int32) (t_trial_heard : Nat → Int32) (t_tried : Nat → Int32) (t_tried_sounds : Nat → Int32) : Option (Int32 × ((Nat → Int32) × (Nat → Int32) × (Nat → Int32) × (Nat → Int32) × (Nat → Int32))) :=
  (m_X5_refuse fu t t_refusals (-2 : Int32)).bind fun o1 =>
    some (o1.1, (o1.2, t_trial, t_trial_heard, t_tried, t_tried_sounds))
def b_X5_says_74 (fu : Nat) (t : Nat → Int32) (t_now : Nat → Int32) (t_now_kinds : Nat → Int32) (t_now_pitches : Nat → Int32) (t_shelves_holding : Nat → Int32) (t_refusals : Nat → Int32) (t_trial : Nat → Int32) (t_trial_heard : Nat → Int32) (t_tried : Nat → Int32) (t_tried_sounds : Nat → Int32) : Option (Int32 × ((Nat → Int32) × (Nat → Int32) × (Nat → Int32) × (Nat → Int32) × (Nat → Int32))) :=
  (m_X5_refuse fu t t_refusals (-3 : Int32)).bind fun o3 =>
    some (o3.1, (o3.2, t_trial, t_trial_heard, t_tried, t_tried_sounds))
def b_X5_says_104 (fu : Nat) (t : Nat → Int32) (t_now : Nat → Int32) (t_now_kinds : Nat → Int32) (t_now_pitches : Nat → Int32) (t_shelves_holding : Nat → Int32) (k_104 : (Int32 × Int32 × (Nat → Int32) × (Nat → Int32) × (Nat → Int32) × (Nat → Int32) × (Nat → Int32)) → Option (Int32 × ((Nat → Int32) × (Nat → Int32) × (Nat → Int32) × (Nat → Int32) × (Nat → Int32)))) (x : Int32 × Int32 × (Nat → Int32) × (Nat → Int32) × (Nat → Int32) × (Nat → Int32) × (Nat → Int32)) : Option (Int32 × ((Nat → Int32) × (Nat → Int32) × (Nat → Int32) × (Nat → Int32) × (Nat → Int32))) :=
  (if (12 : Int32) ≤ x.2.1 then
        (m_X3_standsFor fu x.2.2.2.1 t_now t_now_kinds t_now_pitches x.1).bind fun o6 =>
        (m_X3_hears fu o6 x.2.2.2.2.1 x.2.2.2.2.2.1 x.2.2.2.2.2.2).bind fun o8 =>
        (m_X3_total fu o8.1 o8.2).bind fun o10 =>
        some (o10.1, (x.2.2.1, o8.1, o8.2, x.2.2.2.2.2.1, x.2.2.2.2.2.2))
      else
        (m_X4_add fu x.2.2.2.2.2.1 x.2.2.2.2.2.2 x.2.1).bind fun o12 =>
        k_104 (x.1, (x.2.1 + (1 : Int32)), x.2.2.1, x.2.2.2.1, x.2.2.2.2.1, o12.1, o12.2))
def m_X5_says (fu : Nat) (t : Nat → Int32) (t_now : Nat → Int32) (t_now_kinds : Nat → Int32) (t_now_pitches : Nat → Int32) (t_shelves_holding : Nat → Int32) (t_refusals : Nat → Int32) (t_trial : Nat → Int32) (t_trial_heard : Nat → Int32) (t_tried : Nat → Int32) (t_tried_sounds : Nat → Int32) (l1 : Int32) (l2 : Int32) : Option (Int32 × ((Nat → Int32) × (Nat → Int32) × (Nat → Int32) × (Nat → Int32) × (Nat → Int32))) :=
  (m_X5_isShelf fu l1).bind fun o14 =>
  (if o14.1 = 0 then
    b_X5_says_14 fu t t_now t_now_kinds t_now_pitches t_shelves_holding t_refusals t_trial t_trial_heard t_tried t_tried_sounds
  else
    (m_X5_isKind fu l2).bind fun o17 =>
    (if o17.1 = 0 then
      b_X5_says_14 fu t t_now t_now_kinds t_now_pitches t_shelves_holding t_refusals t_trial t_trial_heard t_tried t_tried_sounds
    else
      (m_X0_isBare fu t_shelves_holding l1).bind fun o20 =>
      (if o20.1 = 0 then
        (m_X0_holdingOf fu t_shelves_holding l1).bind fun o23 =>
        (m_X5_isVoice fu t t_now (o23.1 - (10 : Int32))).bind fun o25 =>
        (if o25.1 = 0 then
          b_X5_says_74 fu t t_now t_now_kinds t_now_pitches t_shelves_holding t_refusals t_trial t_trial_heard t_tried t_tried_sounds
        else
          (m_X1_kindOf fu t_now t_now_kinds (o23.1 - (10 : Int32))).bind fun o28 =>
          (m_X5_isUnder fu o28.1 l2).bind fun o30 =>
          (if o30.1 = 0 then
            b_X5_says_74 fu t t_now t_now_kinds t_now_pitches t_shelves_holding t_refusals t_trial t_trial_heard t_tried t_tried_sounds
          else
            (if l2 = 0 then
              (m_X1_pitchOf fu t_now t_now_pitches (o23.1 - (10 : Int32))).bind fun o36 =>
              some (o36.1, (t_refusals, t_trial, t_trial_heard, t_tried, t_tried_sounds))
            else
              (m_X4_clear fu t_tried).bind fun o34 =>
              lfix (b_X5_says_104 fu t t_now t_now_kinds t_now_pitches t_shelves_holding) fu ((o23.1 - (10 : Int32)), (0 : Int32), t_refusals, t_trial, t_trial_heard, o34, t_tried_sounds))))
      else
        (m_X5_refuse fu t t_refusals (-4 : Int32)).bind fun o38 =>
        some (o38.1, (o38.2, t_trial, t_trial_heard, t_tried, t_tried_sounds)))))
abbrev rm_X5_says : Room := ({ frames := 4, cells := 0, slots := 0, locals := 88 } : Room)
abbrev w0_X5_says (cA : Nat → ClassId) (ad : Nat → Nat) (t : Nat → Int32) (t_now : Nat → Int32) (t_now_kinds : Nat → Int32) (t_now_pitches : Nat → Int32) (t_shelves_holding : Nat → Int32) (t_refusals : Nat → Int32) (t_trial : Nat → Int32) (t_trial_heard : Nat → Int32) (t_tried : Nat → Int32) (t_tried_sounds : Nat → Int32) : va_W := [((ad 0), e_X5 ad t), ((ad 1), e_X1 (ad 2) (ad 3) (ad 4) t_now), ((ad 2), eI cA 8 t_now_kinds), ((ad 4), eI cA 8 t_now_pitches), ((ad 13), e_X0 (ad 14) (ad 15) (ad 16)), ((ad 14), eI cA 8 t_shelves_holding), ((ad 19), eI cA 5 t_refusals), ((ad 20), e_X3 (ad 21) t_trial), ((ad 21), eI cA 13 t_trial_heard), ((ad 26), e_X4 (ad 27) t_tried), ((ad 27), eI cA 12 t_tried_sounds)]
abbrev w1_X5_says (cA : Nat → ClassId) (ad : Nat → Nat) (t : Nat → Int32) (t_now : Nat → Int32) (t_now_kinds : Nat → Int32) (t_now_pitches : Nat → Int32) (t_shelves_holding : Nat → Int32) (u : (Nat → Int32) × (Nat → Int32) × (Nat → Int32) × (Nat → Int32) × (Nat → Int32)) : va_W := [((ad 0), e_X5 ad t), ((ad 1), e_X1 (ad 2) (ad 3) (ad 4) t_now), ((ad 2), eI cA 8 t_now_kinds), ((ad 4), eI cA 8 t_now_pitches), ((ad 13), e_X0 (ad 14) (ad 15) (ad 16)), ((ad 14), eI cA 8 t_shelves_holding), ((ad 19), eI cA 5 u.1), ((ad 20), e_X3 (ad 21) u.2.1), ((ad 21), eI cA 13 u.2.2.1), ((ad 26), e_X4 (ad 27) u.2.2.2.1), ((ad 27), eI cA 12 u.2.2.2.2)]
theorem hd_X5_says : yX5_says.cls = RX5 ∧ yX5_says.cls ≠ "java/lang/invoke/MethodHandle" ∧ yX5_says.cls ≠ "java/lang/invoke/VarHandle" ∧ (parseMethodDescriptor yX5_says.desc).map (fun d => d.parameters.length) = some 2 := by decide +kernel
set_option maxHeartbeats 40000000 in
set_option maxRecDepth 100000 in
theorem c_X5_says (l : Launch) (D : va_G) (cA : Nat → ClassId) (sz : Nat) (fu : Nat) (ad : Nat → Nat) (t : Nat → Int32) (t_now : Nat → Int32) (t_now_kinds : Nat → Int32) (t_now_pitches : Nat → Int32) (t_shelves_holding : Nat → Int32) (t_refusals : Nat → Int32) (t_trial : Nat → Int32) (t_trial_heard : Nat → Int32) (t_tried : Nat → Int32) (t_tried_sounds : Nat → Int32) (l1 : Int32) (l2 : Int32) (out : Int32 × ((Nat → Int32) × (Nat → Int32) × (Nat → Int32) × (Nat → Int32) × (Nat → Int32))) (hm : m_X5_says fu t t_now t_now_kinds t_now_pitches t_shelves_holding t_refusals t_trial t_trial_heard t_tried t_tried_sounds l1 l2 = some out) : MI l yX5_says (wU yX5_says cX5_says 5 ((Option.some Jvm.ClassFile.FieldType.int))) rm_X5_says D cA sz [.ref (ad 0), .int l1, .int l2] (w0_X5_says cA ad t t_now t_now_kinds t_now_pitches t_shelves_holding t_refusals t_trial t_trial_heard t_tried t_tried_sounds) out (w1_X5_says cA ad t t_now t_now_kinds t_now_pitches t_shelves_holding) := by
  refine Met.ofW (cc := cX5_says) (maxL := 5) (ret := (Option.some Jvm.ClassFile.FieldType.int)) (by decide) rfl ?_
  intro p e s m args below meth c s₁ B hml hv
  obtain ⟨hargs, hsz, hP, hK, hD0, hN⟩ := hv
  have hx := B.exec
  have hb := B.bytes
  have hr := B.returns
  have htg : ∀ w ∈ gw, w.before args s = true := fun w h => atoms_spec (ws := wU yX5_says cX5_says 5 ((Option.some Jvm.ClassFile.FieldType.int))) B.pre w (List.mem_cons_of_mem _ h)
  have hown : s.vm.findClass RX5 = some m.cls := findClass_of_methodNamed B.named
  have hlocks := B.notSynchronized
  subst hsz
  have hD := hD0.self (sz := s.heap.size)
  have hA : ∀ q : Nat, s.heap.size ≤ q → va_A (w0_X5_says cA ad t t_now t_now_kinds t_now_pitches t_shelves_holding t_refusals t_trial t_trial_heard t_tried t_tried_sounds) s.heap.size q := fun q h => Or.inr h
  have hS : va_S (va_A (w0_X5_says cA ad t t_now t_now_kinds t_now_pitches t_shelves_holding t_refusals t_trial t_trial_heard t_tried t_tried_sounds) s.heap.size) s.heap s.heap [] := va_S.rf
  generalize va_A (w0_X5_says cA ad t t_now t_now_kinds t_now_pitches t_shelves_holding t_refusals t_trial t_trial_heard t_tried t_tried_sounds) s.heap.size = A at hA hD hS ⊢
  obtain ⟨Q, hQ⟩ : ∃ Q : State → Prop, Q = MQ below (va_Qi (fun (r : Int32) (u : (Nat → Int32) × (Nat → Int32) × (Nat → Int32) × (Nat → Int32) × (Nat → Int32)) => (r, u) = out) (pst0 D cA A (w1_X5_says cA ad t t_now t_now_kinds t_now_pitches t_shelves_holding)) A) args s 0 0 A := ⟨_, rfl⟩
  refine (?_ : W p l e rm_X5_says s m args below meth c s.heap [] 0 0 (MQ below (va_Qi (fun (r : Int32) (u : (Nat → Int32) × (Nat → Int32) × (Nat → Int32) × (Nat → Int32) × (Nat → Int32)) => (r, u) = out) (pst0 D cA A (w1_X5_says cA ad t t_now t_now_kinds t_now_pitches t_shelves_holding)) A) args s 0 0 A) (entryFrame m args 5))
  rw [← hQ]
  have hP : va_P D CL [((ad 0), e_X5 ad t), ((ad 1), e_X1 (ad 2) (ad 3) (ad 4) t_now), ((ad 2), eI cA 8 t_now_kinds), ((ad 4), eI cA 8 t_now_pitches), ((ad 13), e_X0 (ad 14) (ad 15) (ad 16)), ((ad 14), eI cA 8 t_shelves_holding), ((ad 19), eI cA 5 t_refusals), ((ad 20), e_X3 (ad 21) t_trial), ((ad 21), eI cA 13 t_trial_heard), ((ad 26), e_X4 (ad 27) t_tried), ((ad 27), eI cA 12 t_tried_sounds)] s.heap := hP
  have hD : va_D A [((ad 0), e_X5 ad t), ((ad 1), e_X1 (ad 2) (ad 3) (ad 4) t_now), ((ad 2), eI cA 8 t_now_kinds), ((ad 4), eI cA 8 t_now_pitches), ((ad 13), e_X0 (ad 14) (ad 15) (ad 16)), ((ad 14), eI cA 8 t_shelves_holding), ((ad 19), eI cA 5 t_refusals), ((ad 20), e_X3 (ad 21) t_trial), ((ad 21), eI cA 13 t_trial_heard), ((ad 26), e_X4 (ad 27) t_tried), ((ad 27), eI cA 12 t_tried_sounds)] := hD
  have B_14 : ∀ (t_refusals : Nat → Int32) (t_trial : Nat → Int32) (t_trial_heard : Nat → Int32) (t_tried : Nat → Int32) (t_tried_sounds : Nat → Int32) (H : Heap) (locs : List Loc) (ls : Array Slot), b_X5_says_14 fu t t_now t_now_kinds t_now_pitches t_shelves_holding t_refusals t_trial t_trial_heard t_tried t_tried_sounds = some out → va_P D CL [((ad 0), e_X5 ad t), ((ad 1), e_X1 (ad 2) (ad 3) (ad 4) t_now), ((ad 2), eI cA 8 t_now_kinds), ((ad 4), eI cA 8 t_now_pitches), ((ad 13), e_X0 (ad 14) (ad 15) (ad 16)), ((ad 14), eI cA 8 t_shelves_holding), ((ad 19), eI cA 5 t_refusals), ((ad 20), e_X3 (ad 21) t_trial), ((ad 21), eI cA 13 t_trial_heard), ((ad 26), e_X4 (ad 27) t_tried), ((ad 27), eI cA 12 t_tried_sounds)] H → va_D A [((ad 0), e_X5 ad t), ((ad 1), e_X1 (ad 2) (ad 3) (ad 4) t_now), ((ad 2), eI cA 8 t_now_kinds), ((ad 4), eI cA 8 t_now_pitches), ((ad 13), e_X0 (ad 14) (ad 15) (ad 16)), ((ad 14), eI cA 8 t_shelves_holding), ((ad 19), eI cA 5 t_refusals), ((ad 20), e_X3 (ad 21) t_trial), ((ad 21), eI cA 13 t_trial_heard), ((ad 26), e_X4 (ad 27) t_tried), ((ad 27), eI cA 12 t_tried_sounds)] → va_S A s.heap H locs → lv_has ls 5 [(0, .ref (ad 0))] → W p l e rm_X5_says s m args below meth c H locs 0 0 Q (F0 m 14 ls []) := by
    intro  t_refusals t_trial t_trial_heard t_tried t_tried_sounds H locs ls hm hP hD hS hl
    unfold b_X5_says_14 at hm
    refine lv_aload_n hx hb dX5_says_14 rfl (lv_at hl 0 rfl) ?_
    refine lv_bipush (v := (-2 : Int32)) hx hb dX5_says_15 (by decide) ?_
    obtain ⟨o1, ho2, hm⟩ := bd_s hm
    refine xr_i (wr := [((ad 1), e_X1 (ad 2) (ad 3) (ad 4) t_now), ((ad 2), eI cA 8 t_now_kinds), ((ad 4), eI cA 8 t_now_pitches), ((ad 13), e_X0 (ad 14) (ad 15) (ad 16)), ((ad 14), eI cA 8 t_shelves_holding), ((ad 20), e_X3 (ad 21) t_trial), ((ad 21), eI cA 13 t_trial_heard), ((ad 26), e_X4 (ad 27) t_tried), ((ad 27), eI cA 12 t_tried_sounds)]) (wn := [((ad 0), e_X5 ad t), ((ad 1), e_X1 (ad 2) (ad 3) (ad 4) t_now), ((ad 2), eI cA 8 t_now_kinds), ((ad 4), eI cA 8 t_now_pitches), ((ad 13), e_X0 (ad 14) (ad 15) (ad 16)), ((ad 14), eI cA 8 t_shelves_holding), ((ad 19), eI cA 5 o1.2), ((ad 20), e_X3 (ad 21) t_trial), ((ad 21), eI cA 13 t_trial_heard), ((ad 26), e_X4 (ad 27) t_tried), ((ad 27), eI cA 12 t_tried_sounds)]) (va_runV (As := [.int (-2 : Int32)]) (rest := []) ⟨hx, hb, hml, hown, htg⟩ (c_X5_refuse l D cA _ fu ad t t_refusals (-2 : Int32) o1 ho2) (cwV 1 htg (gV q_2_10 q_2_12 q_p1_0 q_1_1 q_2_13) rfl rfl rfl hd_X5_refuse ⟨Nat.le_of_ble_eq_true rfl, Nat.le_of_ble_eq_true rfl⟩) (xpV hN hK hP hD [0, 6] rfl (by decide) rfl rfl) rfl rfl hl.1 rfl (lv_room (Nat.le_of_ble_eq_true rfl)) dX5_says_17 ⟨Nat.zero_le _, Nat.zero_le _⟩) hP hD hS hA [0, 6] [1, 2, 3, 4, 5, 7, 8, 9, 10] [9, 0, 1, 2, 3, 4, 10, 5, 6, 7, 8] rfl rfl (by decide) (by decide) rfl (by decide) (fun H locs hP hD hS => ?_)
    rw [hQ]
    exact W.iret (v := o1.1) hx hb hr (fun t9 ht hW => ⟨⟨o1.1, (o1.2, t_trial, t_trial_heard, t_tried, t_tried_sounds), rfl, (Option.some.inj hm), by rw [ht]; exact hP, va_K.moved hW.alike hK, hD⟩, hS.F ht⟩) hS.2.2 dX5_says_20
  have B_74 : ∀ (t_refusals : Nat → Int32) (t_trial : Nat → Int32) (t_trial_heard : Nat → Int32) (t_tried : Nat → Int32) (t_tried_sounds : Nat → Int32) (H : Heap) (locs : List Loc) (ls : Array Slot), b_X5_says_74 fu t t_now t_now_kinds t_now_pitches t_shelves_holding t_refusals t_trial t_trial_heard t_tried t_tried_sounds = some out → va_P D CL [((ad 0), e_X5 ad t), ((ad 1), e_X1 (ad 2) (ad 3) (ad 4) t_now), ((ad 2), eI cA 8 t_now_kinds), ((ad 4), eI cA 8 t_now_pitches), ((ad 13), e_X0 (ad 14) (ad 15) (ad 16)), ((ad 14), eI cA 8 t_shelves_holding), ((ad 19), eI cA 5 t_refusals), ((ad 20), e_X3 (ad 21) t_trial), ((ad 21), eI cA 13 t_trial_heard), ((ad 26), e_X4 (ad 27) t_tried), ((ad 27), eI cA 12 t_tried_sounds)] H → va_D A [((ad 0), e_X5 ad t), ((ad 1), e_X1 (ad 2) (ad 3) (ad 4) t_now), ((ad 2), eI cA 8 t_now_kinds), ((ad 4), eI cA 8 t_now_pitches), ((ad 13), e_X0 (ad 14) (ad 15) (ad 16)), ((ad 14), eI cA 8 t_shelves_holding), ((ad 19), eI cA 5 t_refusals), ((ad 20), e_X3 (ad 21) t_trial), ((ad 21), eI cA 13 t_trial_heard), ((ad 26), e_X4 (ad 27) t_tried), ((ad 27), eI cA 12 t_tried_sounds)] → va_S A s.heap H locs → lv_has ls 5 [(0, .ref (ad 0))] → W p l e rm_X5_says s m args below meth c H locs 0 0 Q (F0 m 74 ls []) := by
    intro  t_refusals t_trial t_trial_heard t_tried t_tried_sounds H locs ls hm hP hD hS hl
    unfold b_X5_says_74 at hm
    refine lv_aload_n hx hb dX5_says_74 rfl (lv_at hl 0 rfl) ?_
    refine lv_bipush (v := (-3 : Int32)) hx hb dX5_says_75 (by decide) ?_
    obtain ⟨o3, ho4, hm⟩ := bd_s hm
    refine xr_i (wr := [((ad 1), e_X1 (ad 2) (ad 3) (ad 4) t_now), ((ad 2), eI cA 8 t_now_kinds), ((ad 4), eI cA 8 t_now_pitches), ((ad 13), e_X0 (ad 14) (ad 15) (ad 16)), ((ad 14), eI cA 8 t_shelves_holding), ((ad 20), e_X3 (ad 21) t_trial), ((ad 21), eI cA 13 t_trial_heard), ((ad 26), e_X4 (ad 27) t_tried), ((ad 27), eI cA 12 t_tried_sounds)]) (wn := [((ad 0), e_X5 ad t), ((ad 1), e_X1 (ad 2) (ad 3) (ad 4) t_now), ((ad 2), eI cA 8 t_now_kinds), ((ad 4), eI cA 8 t_now_pitches), ((ad 13), e_X0 (ad 14) (ad 15) (ad 16)), ((ad 14), eI cA 8 t_shelves_holding), ((ad 19), eI cA 5 o3.2), ((ad 20), e_X3 (ad 21) t_trial), ((ad 21), eI cA 13 t_trial_heard), ((ad 26), e_X4 (ad 27) t_tried), ((ad 27), eI cA 12 t_tried_sounds)]) (va_runV (As := [.int (-3 : Int32)]) (rest := []) ⟨hx, hb, hml, hown, htg⟩ (c_X5_refuse l D cA _ fu ad t t_refusals (-3 : Int32) o3 ho4) (cwV 1 htg (gV q_2_10 q_2_12 q_p1_0 q_1_1 q_2_13) rfl rfl rfl hd_X5_refuse ⟨Nat.le_of_ble_eq_true rfl, Nat.le_of_ble_eq_true rfl⟩) (xpV hN hK hP hD [0, 6] rfl (by decide) rfl rfl) rfl rfl hl.1 rfl (lv_room (Nat.le_of_ble_eq_true rfl)) dX5_says_77 ⟨Nat.zero_le _, Nat.zero_le _⟩) hP hD hS hA [0, 6] [1, 2, 3, 4, 5, 7, 8, 9, 10] [9, 0, 1, 2, 3, 4, 10, 5, 6, 7, 8] rfl rfl (by decide) (by decide) rfl (by decide) (fun H locs hP hD hS => ?_)
    rw [hQ]
    exact W.iret (v := o3.1) hx hb hr (fun t9 ht hW => ⟨⟨o3.1, (o3.2, t_trial, t_trial_heard, t_tried, t_tried_sounds), rfl, (Option.some.inj hm), by rw [ht]; exact hP, va_K.moved hW.alike hK, hD⟩, hS.F ht⟩) hS.2.2 dX5_says_80
  have B_104 : ∀ (n : Nat) (x : Int32 × Int32 × (Nat → Int32) × (Nat → Int32) × (Nat → Int32) × (Nat → Int32) × (Nat → Int32)) (H : Heap) (locs : List Loc) (ls : Array Slot), lfix (b_X5_says_104 fu t t_now t_now_kinds t_now_pitches t_shelves_holding) n x = some out → va_P D CL [((ad 0), e_X5 ad t), ((ad 1), e_X1 (ad 2) (ad 3) (ad 4) t_now), ((ad 2), eI cA 8 t_now_kinds), ((ad 4), eI cA 8 t_now_pitches), ((ad 13), e_X0 (ad 14) (ad 15) (ad 16)), ((ad 14), eI cA 8 t_shelves_holding), ((ad 19), eI cA 5 x.2.2.1), ((ad 20), e_X3 (ad 21) x.2.2.2.1), ((ad 21), eI cA 13 x.2.2.2.2.1), ((ad 26), e_X4 (ad 27) x.2.2.2.2.2.1), ((ad 27), eI cA 12 x.2.2.2.2.2.2)] H → va_D A [((ad 0), e_X5 ad t), ((ad 1), e_X1 (ad 2) (ad 3) (ad 4) t_now), ((ad 2), eI cA 8 t_now_kinds), ((ad 4), eI cA 8 t_now_pitches), ((ad 13), e_X0 (ad 14) (ad 15) (ad 16)), ((ad 14), eI cA 8 t_shelves_holding), ((ad 19), eI cA 5 x.2.2.1), ((ad 20), e_X3 (ad 21) x.2.2.2.1), ((ad 21), eI cA 13 x.2.2.2.2.1), ((ad 26), e_X4 (ad 27) x.2.2.2.2.2.1), ((ad 27), eI cA 12 x.2.2.2.2.2.2)] → va_S A s.heap H locs → lv_has ls 5 [(0, .ref (ad 0)), (3, .int x.1), (4, .int x.2.1)] → W p l e rm_X5_says s m args below meth c H locs 0 0 Q (F0 m 104 ls []) := by
    intro  n
    induction n with
    | zero => intro x H locs ls hm; cases (show none = some out from hm)
    | succ n HK_104 =>
      intro x H locs ls hm hP hD hS hl
      replace hm : b_X5_says_104 fu t t_now t_now_kinds t_now_pitches t_shelves_holding (lfix (b_X5_says_104 fu t t_now t_now_kinds t_now_pitches t_shelves_holding) n) x = some out := hm
      unfold b_X5_says_104 at hm
      refine lv_iload hx hb dX5_says_104 (lv_at hl 2 rfl) ?_
      refine lv_bipush (v := (12 : Int32)) hx hb dX5_says_106 (by decide) ?_
      refine lv_icmp_ge (tgt := 126) hx hb dX5_says_108 (by decide) (fun c5 => ?_) (fun c5 => ?_)
      · have hm := it_t c5 hm
        refine lv_aload_n hx hb dX5_says_126 rfl (lv_at hl 0 rfl) ?_
        refine va_get (D := D) (ci := 5) (v := .ref (ad 20)) (C := RX5) (T := TX5) (N := 17) hx hb htg inX5 hown hK hP 0 rfl rfl 7 (by decide) (htg _ q_1_195) (fun _ h9 => h9) rfl dX5_says_127 ?_
        refine lv_aload_n hx hb dX5_says_130 rfl (lv_at hl 0 rfl) ?_
        refine va_get (D := D) (ci := 5) (v := .ref (ad 1)) (C := RX5) (T := TX5) (N := 17) hx hb htg inX5 hown hK hP 0 rfl rfl 0 (by decide) (htg _ q_1_188) (fun _ h9 => h9) rfl dX5_says_131 ?_
        refine lv_iload_n hx hb dX5_says_134 rfl (lv_at hl 1 rfl) ?_
        obtain ⟨o6, ho7, hm⟩ := bd_s hm
        refine xr_v (wr := [((ad 0), e_X5 ad t), ((ad 13), e_X0 (ad 14) (ad 15) (ad 16)), ((ad 14), eI cA 8 t_shelves_holding), ((ad 19), eI cA 5 x.2.2.1), ((ad 21), eI cA 13 x.2.2.2.2.1), ((ad 26), e_X4 (ad 27) x.2.2.2.2.2.1), ((ad 27), eI cA 12 x.2.2.2.2.2.2)]) (wn := [((ad 0), e_X5 ad t), ((ad 1), e_X1 (ad 2) (ad 3) (ad 4) t_now), ((ad 2), eI cA 8 t_now_kinds), ((ad 4), eI cA 8 t_now_pitches), ((ad 13), e_X0 (ad 14) (ad 15) (ad 16)), ((ad 14), eI cA 8 t_shelves_holding), ((ad 19), eI cA 5 x.2.2.1), ((ad 20), e_X3 (ad 21) o6), ((ad 21), eI cA 13 x.2.2.2.2.1), ((ad 26), e_X4 (ad 27) x.2.2.2.2.2.1), ((ad 27), eI cA 12 x.2.2.2.2.2.2)]) (va_runVN (As := [.ref (ad 1), .int x.1]) (rest := []) ⟨hx, hb, hml, hown, htg⟩ (c_X3_standsFor l D cA _ fu (ad 20) (ad 21) (ad 1) (ad 2) (ad 3) (ad 4) x.2.2.2.1 t_now t_now_kinds t_now_pitches x.1 o6 ho7) ⟨va_cnB 2 htg (gU q_2_126) rfl rfl rfl (hN _ q_2_123) (htg _ q_1_6) hd_X3_standsFor.2 ⟨Nat.le_of_ble_eq_true rfl, Nat.le_of_ble_eq_true rfl⟩, htg _ q_2_125, htg _ q_p2_0⟩ (xpV hN hK hP hD [7, 1, 2, 3] rfl (by decide) rfl rfl) rfl rfl hl.1 rfl (lv_room (Nat.le_of_ble_eq_true rfl)) dX5_says_135 ⟨Nat.zero_le _, Nat.zero_le _⟩) hP hD hS hA [7, 1, 2, 3] [0, 4, 5, 6, 8, 9, 10] [0, 8, 9, 10, 1, 2, 3, 7, 4, 5, 6] rfl rfl (by decide) (by decide) rfl (by decide) (fun H locs hP hD hS => ?_)
        refine lv_aload_n hx hb dX5_says_138 rfl (lv_at hl 0 rfl) ?_
        refine va_get (D := D) (ci := 5) (v := .ref (ad 20)) (C := RX5) (T := TX5) (N := 17) hx hb htg inX5 hown hK hP 0 rfl rfl 7 (by decide) (htg _ q_1_195) (fun _ h9 => h9) rfl dX5_says_139 ?_
        refine lv_aload_n hx hb dX5_says_142 rfl (lv_at hl 0 rfl) ?_
        refine va_get (D := D) (ci := 5) (v := .ref (ad 26)) (C := RX5) (T := TX5) (N := 17) hx hb htg inX5 hown hK hP 0 rfl rfl 10 (by decide) (htg _ q_1_198) (fun _ h9 => h9) rfl dX5_says_143 ?_
        obtain ⟨o8, ho9, hm⟩ := bd_s hm
        refine xr_v (wr := [((ad 0), e_X5 ad t), ((ad 1), e_X1 (ad 2) (ad 3) (ad 4) t_now), ((ad 2), eI cA 8 t_now_kinds), ((ad 4), eI cA 8 t_now_pitches), ((ad 13), e_X0 (ad 14) (ad 15) (ad 16)), ((ad 14), eI cA 8 t_shelves_holding), ((ad 19), eI cA 5 x.2.2.1)]) (wn := [((ad 0), e_X5 ad t), ((ad 1), e_X1 (ad 2) (ad 3) (ad 4) t_now), ((ad 2), eI cA 8 t_now_kinds), ((ad 4), eI cA 8 t_now_pitches), ((ad 13), e_X0 (ad 14) (ad 15) (ad 16)), ((ad 14), eI cA 8 t_shelves_holding), ((ad 19), eI cA 5 x.2.2.1), ((ad 20), e_X3 (ad 21) o8.1), ((ad 21), eI cA 13 o8.2), ((ad 26), e_X4 (ad 27) x.2.2.2.2.2.1), ((ad 27), eI cA 12 x.2.2.2.2.2.2)]) (va_runVN (As := [.ref (ad 26)]) (rest := []) ⟨hx, hb, hml, hown, htg⟩ (c_X3_hears l D cA _ fu (ad 20) (ad 21) (ad 26) (ad 27) o6 x.2.2.2.2.1 x.2.2.2.2.2.1 x.2.2.2.2.2.2 o8 ho9) ⟨va_cnB 1 htg (gU q_2_132) rfl rfl rfl (hN _ q_2_129) (htg _ q_1_6) hd_X3_hears.2 ⟨Nat.le_of_ble_eq_true rfl, Nat.le_of_ble_eq_true rfl⟩, htg _ q_2_131, htg _ q_p2_1⟩ (xpV hN hK hP hD [7, 8, 9, 10] rfl (by decide) rfl rfl) rfl rfl hl.1 rfl (lv_room (Nat.le_of_ble_eq_true rfl)) dX5_says_146 ⟨Nat.zero_le _, Nat.zero_le _⟩) hP hD hS hA [7, 8, 9, 10] [0, 1, 2, 3, 4, 5, 6] [0, 1, 2, 3, 4, 5, 6, 7, 8, 9, 10] rfl rfl (by decide) (by decide) rfl (by decide) (fun H locs hP hD hS => ?_)
        refine lv_aload_n hx hb dX5_says_149 rfl (lv_at hl 0 rfl) ?_
        refine va_get (D := D) (ci := 5) (v := .ref (ad 20)) (C := RX5) (T := TX5) (N := 17) hx hb htg inX5 hown hK hP 0 rfl rfl 7 (by decide) (htg _ q_1_195) (fun _ h9 => h9) rfl dX5_says_150 ?_
        obtain ⟨o10, ho11, hm⟩ := bd_s hm
        refine xr_i (wr := [((ad 0), e_X5 ad t), ((ad 1), e_X1 (ad 2) (ad 3) (ad 4) t_now), ((ad 2), eI cA 8 t_now_kinds), ((ad 4), eI cA 8 t_now_pitches), ((ad 13), e_X0 (ad 14) (ad 15) (ad 16)), ((ad 14), eI cA 8 t_shelves_holding), ((ad 19), eI cA 5 x.2.2.1), ((ad 26), e_X4 (ad 27) x.2.2.2.2.2.1), ((ad 27), eI cA 12 x.2.2.2.2.2.2)]) (wn := [((ad 0), e_X5 ad t), ((ad 1), e_X1 (ad 2) (ad 3) (ad 4) t_now), ((ad 2), eI cA 8 t_now_kinds), ((ad 4), eI cA 8 t_now_pitches), ((ad 13), e_X0 (ad 14) (ad 15) (ad 16)), ((ad 14), eI cA 8 t_shelves_holding), ((ad 19), eI cA 5 x.2.2.1), ((ad 20), e_X3 (ad 21) o8.1), ((ad 21), eI cA 13 o8.2), ((ad 26), e_X4 (ad 27) x.2.2.2.2.2.1), ((ad 27), eI cA 12 x.2.2.2.2.2.2)]) (va_runVN (As := []) (rest := []) ⟨hx, hb, hml, hown, htg⟩ (c_X3_total l D cA _ fu (ad 20) (ad 21) o8.1 o8.2 o10 ho11) ⟨va_cnB 0 htg (gU q_2_158) rfl rfl rfl (hN _ q_2_155) (htg _ q_1_6) hd_X3_total.2 ⟨Nat.le_of_ble_eq_true rfl, Nat.le_of_ble_eq_true rfl⟩, htg _ q_2_157, htg _ q_p2_7⟩ (xpV hN hK hP hD [7, 8] rfl (by decide) rfl rfl) rfl rfl hl.1 rfl (lv_room (Nat.le_of_ble_eq_true rfl)) dX5_says_153 ⟨Nat.zero_le _, Nat.zero_le _⟩) hP hD hS hA [7, 8] [0, 1, 2, 3, 4, 5, 6, 9, 10] [0, 1, 2, 3, 4, 5, 6, 9, 10, 7, 8] rfl rfl (by decide) (by decide) rfl (by decide) (fun H locs hP hD hS => ?_)
        rw [hQ]
        exact W.iret (v := o10.1) hx hb hr (fun t9 ht hW => ⟨⟨o10.1, (x.2.2.1, o8.1, o8.2, x.2.2.2.2.2.1, x.2.2.2.2.2.2), rfl, (Option.some.inj hm), by rw [ht]; exact hP, va_K.moved hW.alike hK, hD⟩, hS.F ht⟩) hS.2.2 dX5_says_156
      · have hm := it_f c5 hm
        refine lv_aload_n hx hb dX5_says_111 rfl (lv_at hl 0 rfl) ?_
        refine va_get (D := D) (ci := 5) (v := .ref (ad 26)) (C := RX5) (T := TX5) (N := 17) hx hb htg inX5 hown hK hP 0 rfl rfl 10 (by decide) (htg _ q_1_198) (fun _ h9 => h9) rfl dX5_says_112 ?_
        refine lv_iload hx hb dX5_says_115 (lv_at hl 2 rfl) ?_
        obtain ⟨o12, ho13, hm⟩ := bd_s hm
        refine xr_v (wr := [((ad 0), e_X5 ad t), ((ad 1), e_X1 (ad 2) (ad 3) (ad 4) t_now), ((ad 2), eI cA 8 t_now_kinds), ((ad 4), eI cA 8 t_now_pitches), ((ad 13), e_X0 (ad 14) (ad 15) (ad 16)), ((ad 14), eI cA 8 t_shelves_holding), ((ad 19), eI cA 5 x.2.2.1), ((ad 20), e_X3 (ad 21) x.2.2.2.1), ((ad 21), eI cA 13 x.2.2.2.2.1)]) (wn := [((ad 0), e_X5 ad t), ((ad 1), e_X1 (ad 2) (ad 3) (ad 4) t_now), ((ad 2), eI cA 8 t_now_kinds), ((ad 4), eI cA 8 t_now_pitches), ((ad 13), e_X0 (ad 14) (ad 15) (ad 16)), ((ad 14), eI cA 8 t_shelves_holding), ((ad 19), eI cA 5 x.2.2.1), ((ad 20), e_X3 (ad 21) x.2.2.2.1), ((ad 21), eI cA 13 x.2.2.2.2.1), ((ad 26), e_X4 (ad 27) o12.1), ((ad 27), eI cA 12 o12.2)]) (va_runVN (As := [.int x.2.1]) (rest := []) ⟨hx, hb, hml, hown, htg⟩ (c_X4_add l D cA _ fu (ad 26) (ad 27) x.2.2.2.2.2.1 x.2.2.2.2.2.2 x.2.1 o12 ho13) ⟨va_cnB 1 htg (gU q_2_121) rfl rfl rfl (hN _ q_2_118) (htg _ q_1_7) hd_X4_add.2 ⟨Nat.le_of_ble_eq_true rfl, Nat.le_of_ble_eq_true rfl⟩, htg _ q_2_120, htg _ q_p1_15⟩ (xpV hN hK hP hD [9, 10] rfl (by decide) rfl rfl) rfl rfl hl.1 rfl (lv_room (Nat.le_of_ble_eq_true rfl)) dX5_says_117 ⟨Nat.zero_le _, Nat.zero_le _⟩) hP hD hS hA [9, 10] [0, 1, 2, 3, 4, 5, 6, 7, 8] [0, 1, 2, 3, 4, 5, 6, 7, 8, 9, 10] rfl rfl (by decide) (by decide) rfl (by decide) (fun H locs hP hD hS => ?_)
        refine lv_iinc (v := (x.2.1 + (1 : Int32))) (lv' := [(4, .int (x.2.1 + (1 : Int32))), (0, .ref (ad 0)), (3, .int x.1)]) hx hb dX5_says_120 hl (k := 2) rfl rfl (by decide) rfl (fun ls hl => ?_)
        refine lv_goto (tgt := 104) hx hb dX5_says_123 (by decide) ?_
        exact HK_104 _ _ _ _ hm hP hD hS (lv_sub hl [1, 2, 0] rfl)
  unfold m_X5_says at hm
  subst hargs
  have hl := lv_entry ([.ref (ad 0), .int l1, .int l2]) (n := 5) (Nat.le_of_ble_eq_true rfl)
  rw [lg_entry_eq]
  generalize (lg_sl ([.ref (ad 0), .int l1, .int l2]) ++ List.replicate (5 - (lg_sl ([.ref (ad 0), .int l1, .int l2])).length) Slot.unset).toArray = ls at hl ⊢
  have hl : lv_has ls 5 [(0, .ref (ad 0)), (1, .int l1), (2, .int l2)] := hl
  refine lv_iload_n hx hb dX5_says_0 rfl (lv_at hl 1 rfl) ?_
  obtain ⟨o14, ho15, hm⟩ := bd_s hm
  refine xr_i (wr := [((ad 0), e_X5 ad t), ((ad 1), e_X1 (ad 2) (ad 3) (ad 4) t_now), ((ad 2), eI cA 8 t_now_kinds), ((ad 4), eI cA 8 t_now_pitches), ((ad 13), e_X0 (ad 14) (ad 15) (ad 16)), ((ad 14), eI cA 8 t_shelves_holding), ((ad 19), eI cA 5 t_refusals), ((ad 20), e_X3 (ad 21) t_trial), ((ad 21), eI cA 13 t_trial_heard), ((ad 26), e_X4 (ad 27) t_tried), ((ad 27), eI cA 12 t_tried_sounds)]) (wn := [((ad 0), e_X5 ad t), ((ad 1), e_X1 (ad 2) (ad 3) (ad 4) t_now), ((ad 2), eI cA 8 t_now_kinds), ((ad 4), eI cA 8 t_now_pitches), ((ad 13), e_X0 (ad 14) (ad 15) (ad 16)), ((ad 14), eI cA 8 t_shelves_holding), ((ad 19), eI cA 5 t_refusals), ((ad 20), e_X3 (ad 21) t_trial), ((ad 21), eI cA 13 t_trial_heard), ((ad 26), e_X4 (ad 27) t_tried), ((ad 27), eI cA 12 t_tried_sounds)]) (va_runS (As := [.int l1]) (rest := []) ⟨hx, hb, hml, hown, htg⟩ (c_X5_isShelf l D cA _ fu l1 o14 ho15) (cwS 1 htg (gS q_2_4 q_2_5 q_1_1 q_2_6) rfl rfl rfl hd_X5_isShelf ⟨Nat.le_of_ble_eq_true rfl, Nat.le_of_ble_eq_true rfl⟩) (xpS hN hK hP hD [] rfl (by decide)) rfl rfl hl.1 rfl (lv_room (Nat.le_of_ble_eq_true rfl)) dX5_says_1 ⟨Nat.zero_le _, Nat.zero_le _⟩) hP hD hS hA [] [0, 1, 2, 3, 4, 5, 6, 7, 8, 9, 10] [0, 1, 2, 3, 4, 5, 6, 7, 8, 9, 10] rfl rfl (by decide) (by decide) rfl (by decide) (fun H locs hP hD hS => ?_)
  refine lv_if_eq (tgt := 14) hx hb dX5_says_4 (by decide) (fun c16 => ?_) (fun c16 => ?_)
  · have hm := it_t c16 hm
    exact B_14 _ _ _ _ _ _ _ _ hm hP hD hS (lv_sub hl [0] rfl)
  · have hm := it_f c16 hm
    refine lv_iload_n hx hb dX5_says_7 rfl (lv_at hl 2 rfl) ?_
    obtain ⟨o17, ho18, hm⟩ := bd_s hm
    refine xr_i (wr := [((ad 0), e_X5 ad t), ((ad 1), e_X1 (ad 2) (ad 3) (ad 4) t_now), ((ad 2), eI cA 8 t_now_kinds), ((ad 4), eI cA 8 t_now_pitches), ((ad 13), e_X0 (ad 14) (ad 15) (ad 16)), ((ad 14), eI cA 8 t_shelves_holding), ((ad 19), eI cA 5 t_refusals), ((ad 20), e_X3 (ad 21) t_trial), ((ad 21), eI cA 13 t_trial_heard), ((ad 26), e_X4 (ad 27) t_tried), ((ad 27), eI cA 12 t_tried_sounds)]) (wn := [((ad 0), e_X5 ad t), ((ad 1), e_X1 (ad 2) (ad 3) (ad 4) t_now), ((ad 2), eI cA 8 t_now_kinds), ((ad 4), eI cA 8 t_now_pitches), ((ad 13), e_X0 (ad 14) (ad 15) (ad 16)), ((ad 14), eI cA 8 t_shelves_holding), ((ad 19), eI cA 5 t_refusals), ((ad 20), e_X3 (ad 21) t_trial), ((ad 21), eI cA 13 t_trial_heard), ((ad 26), e_X4 (ad 27) t_tried), ((ad 27), eI cA 12 t_tried_sounds)]) (va_runS (As := [.int l2]) (rest := []) ⟨hx, hb, hml, hown, htg⟩ (c_X5_isKind l D cA _ fu l2 o17 ho18) (cwS 1 htg (gS q_2_99 q_2_100 q_1_1 q_2_101) rfl rfl rfl hd_X5_isKind ⟨Nat.le_of_ble_eq_true rfl, Nat.le_of_ble_eq_true rfl⟩) (xpS hN hK hP hD [] rfl (by decide)) rfl rfl hl.1 rfl (lv_room (Nat.le_of_ble_eq_true rfl)) dX5_says_8 ⟨Nat.zero_le _, Nat.zero_le _⟩) hP hD hS hA [] [0, 1, 2, 3, 4, 5, 6, 7, 8, 9, 10] [0, 1, 2, 3, 4, 5, 6, 7, 8, 9, 10] rfl rfl (by decide) (by decide) rfl (by decide) (fun H locs hP hD hS => ?_)
    refine lv_if_ne (tgt := 21) hx hb dX5_says_11 (by decide) (fun c19 => ?_) (fun c19 => ?_)
    · have hm := it_f c19 hm
      refine lv_aload_n hx hb dX5_says_21 rfl (lv_at hl 0 rfl) ?_
      refine va_get (D := D) (ci := 5) (v := .ref (ad 13)) (C := RX5) (T := TX5) (N := 17) hx hb htg inX5 hown hK hP 0 rfl rfl 4 (by decide) (htg _ q_1_192) (fun _ h9 => h9) rfl dX5_says_22 ?_
      refine lv_iload_n hx hb dX5_says_25 rfl (lv_at hl 1 rfl) ?_
      obtain ⟨o20, ho21, hm⟩ := bd_s hm
      refine xr_i (wr := [((ad 0), e_X5 ad t), ((ad 1), e_X1 (ad 2) (ad 3) (ad 4) t_now), ((ad 2), eI cA 8 t_now_kinds), ((ad 4), eI cA 8 t_now_pitches), ((ad 19), eI cA 5 t_refusals), ((ad 20), e_X3 (ad 21) t_trial), ((ad 21), eI cA 13 t_trial_heard), ((ad 26), e_X4 (ad 27) t_tried), ((ad 27), eI cA 12 t_tried_sounds)]) (wn := [((ad 0), e_X5 ad t), ((ad 1), e_X1 (ad 2) (ad 3) (ad 4) t_now), ((ad 2), eI cA 8 t_now_kinds), ((ad 4), eI cA 8 t_now_pitches), ((ad 13), e_X0 (ad 14) (ad 15) (ad 16)), ((ad 14), eI cA 8 t_shelves_holding), ((ad 19), eI cA 5 t_refusals), ((ad 20), e_X3 (ad 21) t_trial), ((ad 21), eI cA 13 t_trial_heard), ((ad 26), e_X4 (ad 27) t_tried), ((ad 27), eI cA 12 t_tried_sounds)]) (va_runVN (As := [.int l1]) (rest := []) ⟨hx, hb, hml, hown, htg⟩ (c_X0_isBare l D cA _ fu (ad 13) (ad 14) (ad 15) (ad 16) t_shelves_holding l1 o20 ho21) ⟨va_cnB 1 htg (gU q_2_41) rfl rfl rfl (hN _ q_2_38) (htg _ q_1_3) hd_X0_isBare.2 ⟨Nat.le_of_ble_eq_true rfl, Nat.le_of_ble_eq_true rfl⟩, htg _ q_2_40, htg _ q_p1_4⟩ (xpV hN hK hP hD [4, 5] rfl (by decide) rfl rfl) rfl rfl hl.1 rfl (lv_room (Nat.le_of_ble_eq_true rfl)) dX5_says_26 ⟨Nat.zero_le _, Nat.zero_le _⟩) hP hD hS hA [4, 5] [0, 1, 2, 3, 6, 7, 8, 9, 10] [0, 1, 2, 3, 9, 10, 4, 5, 6, 7, 8] rfl rfl (by decide) (by decide) rfl (by decide) (fun H locs hP hD hS => ?_)
      refine lv_if_eq (tgt := 39) hx hb dX5_says_29 (by decide) (fun c22 => ?_) (fun c22 => ?_)
      · have hm := it_t c22 hm
        refine lv_aload_n hx hb dX5_says_39 rfl (lv_at hl 0 rfl) ?_
        refine va_get (D := D) (ci := 5) (v := .ref (ad 13)) (C := RX5) (T := TX5) (N := 17) hx hb htg inX5 hown hK hP 0 rfl rfl 4 (by decide) (htg _ q_1_192) (fun _ h9 => h9) rfl dX5_says_40 ?_
        refine lv_iload_n hx hb dX5_says_43 rfl (lv_at hl 1 rfl) ?_
        obtain ⟨o23, ho24, hm⟩ := bd_s hm
        refine xr_i (wr := [((ad 0), e_X5 ad t), ((ad 1), e_X1 (ad 2) (ad 3) (ad 4) t_now), ((ad 2), eI cA 8 t_now_kinds), ((ad 4), eI cA 8 t_now_pitches), ((ad 19), eI cA 5 t_refusals), ((ad 20), e_X3 (ad 21) t_trial), ((ad 21), eI cA 13 t_trial_heard), ((ad 26), e_X4 (ad 27) t_tried), ((ad 27), eI cA 12 t_tried_sounds)]) (wn := [((ad 0), e_X5 ad t), ((ad 1), e_X1 (ad 2) (ad 3) (ad 4) t_now), ((ad 2), eI cA 8 t_now_kinds), ((ad 4), eI cA 8 t_now_pitches), ((ad 13), e_X0 (ad 14) (ad 15) (ad 16)), ((ad 14), eI cA 8 t_shelves_holding), ((ad 19), eI cA 5 t_refusals), ((ad 20), e_X3 (ad 21) t_trial), ((ad 21), eI cA 13 t_trial_heard), ((ad 26), e_X4 (ad 27) t_tried), ((ad 27), eI cA 12 t_tried_sounds)]) (va_runVN (As := [.int l1]) (rest := []) ⟨hx, hb, hml, hown, htg⟩ (c_X0_holdingOf l D cA _ fu (ad 13) (ad 14) (ad 15) (ad 16) t_shelves_holding l1 o23 ho24) ⟨va_cnB 1 htg (gU q_2_37) rfl rfl rfl (hN _ q_2_82) (htg _ q_1_3) hd_X0_holdingOf.2 ⟨Nat.le_of_ble_eq_true rfl, Nat.le_of_ble_eq_true rfl⟩, htg _ q_2_36, htg _ q_p1_3⟩ (xpV hN hK hP hD [4, 5] rfl (by decide) rfl rfl) rfl rfl hl.1 rfl (lv_room (Nat.le_of_ble_eq_true rfl)) dX5_says_44 ⟨Nat.zero_le _, Nat.zero_le _⟩) hP hD hS hA [4, 5] [0, 1, 2, 3, 6, 7, 8, 9, 10] [0, 1, 2, 3, 9, 10, 4, 5, 6, 7, 8] rfl rfl (by decide) (by decide) rfl (by decide) (fun H locs hP hD hS => ?_)
        refine lv_bipush (v := (10 : Int32)) hx hb dX5_says_47 (by decide) ?_
        refine lv_isub hx hb dX5_says_49 ?_
        refine lv_istore_n (lv' := [(3, .int (o23.1 - (10 : Int32))), (0, .ref (ad 0)), (1, .int l1), (2, .int l2)]) hx hb dX5_says_50 rfl hl (by decide) rfl (fun ls hl => ?_)
        refine lv_aload_n hx hb dX5_says_51 rfl (lv_at hl 1 rfl) ?_
        refine lv_iload_n hx hb dX5_says_52 rfl (lv_at hl 0 rfl) ?_
        obtain ⟨o25, ho26, hm⟩ := bd_s hm
        refine xr_i (wr := [((ad 2), eI cA 8 t_now_kinds), ((ad 4), eI cA 8 t_now_pitches), ((ad 13), e_X0 (ad 14) (ad 15) (ad 16)), ((ad 14), eI cA 8 t_shelves_holding), ((ad 19), eI cA 5 t_refusals), ((ad 20), e_X3 (ad 21) t_trial), ((ad 21), eI cA 13 t_trial_heard), ((ad 26), e_X4 (ad 27) t_tried), ((ad 27), eI cA 12 t_tried_sounds)]) (wn := [((ad 0), e_X5 ad t), ((ad 1), e_X1 (ad 2) (ad 3) (ad 4) t_now), ((ad 2), eI cA 8 t_now_kinds), ((ad 4), eI cA 8 t_now_pitches), ((ad 13), e_X0 (ad 14) (ad 15) (ad 16)), ((ad 14), eI cA 8 t_shelves_holding), ((ad 19), eI cA 5 t_refusals), ((ad 20), e_X3 (ad 21) t_trial), ((ad 21), eI cA 13 t_trial_heard), ((ad 26), e_X4 (ad 27) t_tried), ((ad 27), eI cA 12 t_tried_sounds)]) (va_runV (As := [.int (o23.1 - (10 : Int32))]) (rest := []) ⟨hx, hb, hml, hown, htg⟩ (c_X5_isVoice l D cA _ fu ad t t_now (o23.1 - (10 : Int32)) o25 ho26) (cwV 1 htg (gV q_2_87 q_2_89 q_p1_10 q_1_1 q_2_90) rfl rfl rfl hd_X5_isVoice ⟨Nat.le_of_ble_eq_true rfl, Nat.le_of_ble_eq_true rfl⟩) (xpV hN hK hP hD [0, 1] rfl (by decide) rfl rfl) rfl rfl hl.1 rfl (lv_room (Nat.le_of_ble_eq_true rfl)) dX5_says_53 ⟨Nat.zero_le _, Nat.zero_le _⟩) hP hD hS hA [0, 1] [2, 3, 4, 5, 6, 7, 8, 9, 10] [9, 10, 0, 1, 2, 3, 4, 5, 6, 7, 8] rfl rfl (by decide) (by decide) rfl (by decide) (fun H locs hP hD hS => ?_)
        refine lv_if_eq (tgt := 74) hx hb dX5_says_56 (by decide) (fun c27 => ?_) (fun c27 => ?_)
        · have hm := it_t c27 hm
          exact B_74 _ _ _ _ _ _ _ _ hm hP hD hS (lv_sub hl [1] rfl)
        · have hm := it_f c27 hm
          refine lv_aload_n hx hb dX5_says_59 rfl (lv_at hl 1 rfl) ?_
          refine va_get (D := D) (ci := 5) (v := .ref (ad 1)) (C := RX5) (T := TX5) (N := 17) hx hb htg inX5 hown hK hP 0 rfl rfl 0 (by decide) (htg _ q_1_188) (fun _ h9 => h9) rfl dX5_says_60 ?_
          refine lv_iload_n hx hb dX5_says_63 rfl (lv_at hl 0 rfl) ?_
          obtain ⟨o28, ho29, hm⟩ := bd_s hm
          refine xr_i (wr := [((ad 0), e_X5 ad t), ((ad 4), eI cA 8 t_now_pitches), ((ad 13), e_X0 (ad 14) (ad 15) (ad 16)), ((ad 14), eI cA 8 t_shelves_holding), ((ad 19), eI cA 5 t_refusals), ((ad 20), e_X3 (ad 21) t_trial), ((ad 21), eI cA 13 t_trial_heard), ((ad 26), e_X4 (ad 27) t_tried), ((ad 27), eI cA 12 t_tried_sounds)]) (wn := [((ad 0), e_X5 ad t), ((ad 1), e_X1 (ad 2) (ad 3) (ad 4) t_now), ((ad 2), eI cA 8 t_now_kinds), ((ad 4), eI cA 8 t_now_pitches), ((ad 13), e_X0 (ad 14) (ad 15) (ad 16)), ((ad 14), eI cA 8 t_shelves_holding), ((ad 19), eI cA 5 t_refusals), ((ad 20), e_X3 (ad 21) t_trial), ((ad 21), eI cA 13 t_trial_heard), ((ad 26), e_X4 (ad 27) t_tried), ((ad 27), eI cA 12 t_tried_sounds)]) (va_runVN (As := [.int (o23.1 - (10 : Int32))]) (rest := []) ⟨hx, hb, hml, hown, htg⟩ (c_X1_kindOf l D cA _ fu (ad 1) (ad 2) (ad 3) (ad 4) t_now t_now_kinds (o23.1 - (10 : Int32)) o28 ho29) ⟨va_cnB 1 htg (gU q_2_105) rfl rfl rfl (hN _ q_2_102) (htg _ q_1_2) hd_X1_kindOf.2 ⟨Nat.le_of_ble_eq_true rfl, Nat.le_of_ble_eq_true rfl⟩, htg _ q_2_104, htg _ q_p1_12⟩ (xpV hN hK hP hD [1, 2] rfl (by decide) rfl rfl) rfl rfl hl.1 rfl (lv_room (Nat.le_of_ble_eq_true rfl)) dX5_says_64 ⟨Nat.zero_le _, Nat.zero_le _⟩) hP hD hS hA [1, 2] [0, 3, 4, 5, 6, 7, 8, 9, 10] [0, 9, 10, 1, 2, 3, 4, 5, 6, 7, 8] rfl rfl (by decide) (by decide) rfl (by decide) (fun H locs hP hD hS => ?_)
          refine lv_iload_n hx hb dX5_says_67 rfl (lv_at hl 3 rfl) ?_
          obtain ⟨o30, ho31, hm⟩ := bd_s hm
          refine xr_i (wr := [((ad 0), e_X5 ad t), ((ad 1), e_X1 (ad 2) (ad 3) (ad 4) t_now), ((ad 2), eI cA 8 t_now_kinds), ((ad 4), eI cA 8 t_now_pitches), ((ad 13), e_X0 (ad 14) (ad 15) (ad 16)), ((ad 14), eI cA 8 t_shelves_holding), ((ad 19), eI cA 5 t_refusals), ((ad 20), e_X3 (ad 21) t_trial), ((ad 21), eI cA 13 t_trial_heard), ((ad 26), e_X4 (ad 27) t_tried), ((ad 27), eI cA 12 t_tried_sounds)]) (wn := [((ad 0), e_X5 ad t), ((ad 1), e_X1 (ad 2) (ad 3) (ad 4) t_now), ((ad 2), eI cA 8 t_now_kinds), ((ad 4), eI cA 8 t_now_pitches), ((ad 13), e_X0 (ad 14) (ad 15) (ad 16)), ((ad 14), eI cA 8 t_shelves_holding), ((ad 19), eI cA 5 t_refusals), ((ad 20), e_X3 (ad 21) t_trial), ((ad 21), eI cA 13 t_trial_heard), ((ad 26), e_X4 (ad 27) t_tried), ((ad 27), eI cA 12 t_tried_sounds)]) (va_runS (As := [.int o28.1, .int l2]) (rest := []) ⟨hx, hb, hml, hown, htg⟩ (c_X5_isUnder l D cA _ fu o28.1 l2 o30 ho31) (cwS 2 htg (gS q_2_107 q_2_108 q_1_1 q_2_109) rfl rfl rfl hd_X5_isUnder ⟨Nat.le_of_ble_eq_true rfl, Nat.le_of_ble_eq_true rfl⟩) (xpS hN hK hP hD [] rfl (by decide)) rfl rfl hl.1 rfl (lv_room (Nat.le_of_ble_eq_true rfl)) dX5_says_68 ⟨Nat.zero_le _, Nat.zero_le _⟩) hP hD hS hA [] [0, 1, 2, 3, 4, 5, 6, 7, 8, 9, 10] [0, 1, 2, 3, 4, 5, 6, 7, 8, 9, 10] rfl rfl (by decide) (by decide) rfl (by decide) (fun H locs hP hD hS => ?_)
          refine lv_if_ne (tgt := 81) hx hb dX5_says_71 (by decide) (fun c32 => ?_) (fun c32 => ?_)
          · have hm := it_f c32 hm
            refine lv_iload_n hx hb dX5_says_81 rfl (lv_at hl 3 rfl) ?_
            refine lv_if_ne (tgt := 94) hx hb dX5_says_82 (by decide) (fun c33 => ?_) (fun c33 => ?_)
            · have hm := it_f c33 hm
              refine lv_aload_n hx hb dX5_says_94 rfl (lv_at hl 1 rfl) ?_
              refine va_get (D := D) (ci := 5) (v := .ref (ad 26)) (C := RX5) (T := TX5) (N := 17) hx hb htg inX5 hown hK hP 0 rfl rfl 10 (by decide) (htg _ q_1_198) (fun _ h9 => h9) rfl dX5_says_95 ?_
              obtain ⟨o34, ho35, hm⟩ := bd_s hm
              refine xr_v (wr := [((ad 0), e_X5 ad t), ((ad 1), e_X1 (ad 2) (ad 3) (ad 4) t_now), ((ad 2), eI cA 8 t_now_kinds), ((ad 4), eI cA 8 t_now_pitches), ((ad 13), e_X0 (ad 14) (ad 15) (ad 16)), ((ad 14), eI cA 8 t_shelves_holding), ((ad 19), eI cA 5 t_refusals), ((ad 20), e_X3 (ad 21) t_trial), ((ad 21), eI cA 13 t_trial_heard), ((ad 27), eI cA 12 t_tried_sounds)]) (wn := [((ad 0), e_X5 ad t), ((ad 1), e_X1 (ad 2) (ad 3) (ad 4) t_now), ((ad 2), eI cA 8 t_now_kinds), ((ad 4), eI cA 8 t_now_pitches), ((ad 13), e_X0 (ad 14) (ad 15) (ad 16)), ((ad 14), eI cA 8 t_shelves_holding), ((ad 19), eI cA 5 t_refusals), ((ad 20), e_X3 (ad 21) t_trial), ((ad 21), eI cA 13 t_trial_heard), ((ad 26), e_X4 (ad 27) o34), ((ad 27), eI cA 12 t_tried_sounds)]) (va_runVN (As := []) (rest := []) ⟨hx, hb, hml, hown, htg⟩ (c_X4_clear l D cA _ fu (ad 26) (ad 27) t_tried o34 ho35) ⟨va_cnB 0 htg (gU q_2_117) rfl rfl rfl (hN _ q_2_114) (htg _ q_1_7) hd_X4_clear.2 ⟨Nat.le_of_ble_eq_true rfl, Nat.le_of_ble_eq_true rfl⟩, htg _ q_2_116, htg _ q_p1_14⟩ (xpV hN hK hP hD [9] rfl (by decide) rfl rfl) rfl rfl hl.1 rfl (lv_room (Nat.le_of_ble_eq_true rfl)) dX5_says_98 ⟨Nat.zero_le _, Nat.zero_le _⟩) hP hD hS hA [9] [0, 1, 2, 3, 4, 5, 6, 7, 8, 10] [0, 1, 2, 3, 4, 5, 6, 7, 8, 10, 9] rfl rfl (by decide) (by decide) rfl (by decide) (fun H locs hP hD hS => ?_)
              refine lv_iconst (v := (0 : Int32)) hx hb dX5_says_101 (by decide) ?_
              refine lv_istore (lv' := [(4, .int (0 : Int32)), (3, .int (o23.1 - (10 : Int32))), (0, .ref (ad 0)), (1, .int l1), (2, .int l2)]) hx hb dX5_says_102 hl (by decide) rfl (fun ls hl => ?_)
              exact B_104 fu _ _ _ _ hm hP hD hS (lv_sub hl [2, 1, 0] rfl)
            · have hm := it_t c33 hm
              refine lv_aload_n hx hb dX5_says_85 rfl (lv_at hl 1 rfl) ?_
              refine va_get (D := D) (ci := 5) (v := .ref (ad 1)) (C := RX5) (T := TX5) (N := 17) hx hb htg inX5 hown hK hP 0 rfl rfl 0 (by decide) (htg _ q_1_188) (fun _ h9 => h9) rfl dX5_says_86 ?_
              refine lv_iload_n hx hb dX5_says_89 rfl (lv_at hl 0 rfl) ?_
              obtain ⟨o36, ho37, hm⟩ := bd_s hm
              refine xr_i (wr := [((ad 0), e_X5 ad t), ((ad 2), eI cA 8 t_now_kinds), ((ad 13), e_X0 (ad 14) (ad 15) (ad 16)), ((ad 14), eI cA 8 t_shelves_holding), ((ad 19), eI cA 5 t_refusals), ((ad 20), e_X3 (ad 21) t_trial), ((ad 21), eI cA 13 t_trial_heard), ((ad 26), e_X4 (ad 27) t_tried), ((ad 27), eI cA 12 t_tried_sounds)]) (wn := [((ad 0), e_X5 ad t), ((ad 1), e_X1 (ad 2) (ad 3) (ad 4) t_now), ((ad 2), eI cA 8 t_now_kinds), ((ad 4), eI cA 8 t_now_pitches), ((ad 13), e_X0 (ad 14) (ad 15) (ad 16)), ((ad 14), eI cA 8 t_shelves_holding), ((ad 19), eI cA 5 t_refusals), ((ad 20), e_X3 (ad 21) t_trial), ((ad 21), eI cA 13 t_trial_heard), ((ad 26), e_X4 (ad 27) t_tried), ((ad 27), eI cA 12 t_tried_sounds)]) (va_runVN (As := [.int (o23.1 - (10 : Int32))]) (rest := []) ⟨hx, hb, hml, hown, htg⟩ (c_X1_pitchOf l D cA _ fu (ad 1) (ad 2) (ad 3) (ad 4) t_now t_now_pitches (o23.1 - (10 : Int32)) o36 ho37) ⟨va_cnB 1 htg (gU q_2_113) rfl rfl rfl (hN _ q_2_110) (htg _ q_1_2) hd_X1_pitchOf.2 ⟨Nat.le_of_ble_eq_true rfl, Nat.le_of_ble_eq_true rfl⟩, htg _ q_2_112, htg _ q_p1_13⟩ (xpV hN hK hP hD [1, 3] rfl (by decide) rfl rfl) rfl rfl hl.1 rfl (lv_room (Nat.le_of_ble_eq_true rfl)) dX5_says_90 ⟨Nat.zero_le _, Nat.zero_le _⟩) hP hD hS hA [1, 3] [0, 2, 4, 5, 6, 7, 8, 9, 10] [0, 9, 1, 10, 2, 3, 4, 5, 6, 7, 8] rfl rfl (by decide) (by decide) rfl (by decide) (fun H locs hP hD hS => ?_)
              rw [hQ]
              exact W.iret (v := o36.1) hx hb hr (fun t9 ht hW => ⟨⟨o36.1, (t_refusals, t_trial, t_trial_heard, t_tried, t_tried_sounds), rfl, (Option.some.inj hm), by rw [ht]; exact hP, va_K.moved hW.alike hK, hD⟩, hS.F ht⟩) hS.2.2 dX5_says_93
          · have hm := it_t c32 hm
            exact B_74 _ _ _ _ _ _ _ _ hm hP hD hS (lv_sub hl [1] rfl)
      · have hm := it_f c22 hm
        refine lv_aload_n hx hb dX5_says_32 rfl (lv_at hl 0 rfl) ?_
        refine lv_bipush (v := (-4 : Int32)) hx hb dX5_says_33 (by decide) ?_
        obtain ⟨o38, ho39, hm⟩ := bd_s hm
        refine xr_i (wr := [((ad 1), e_X1 (ad 2) (ad 3) (ad 4) t_now), ((ad 2), eI cA 8 t_now_kinds), ((ad 4), eI cA 8 t_now_pitches), ((ad 13), e_X0 (ad 14) (ad 15) (ad 16)), ((ad 14), eI cA 8 t_shelves_holding), ((ad 20), e_X3 (ad 21) t_trial), ((ad 21), eI cA 13 t_trial_heard), ((ad 26), e_X4 (ad 27) t_tried), ((ad 27), eI cA 12 t_tried_sounds)]) (wn := [((ad 0), e_X5 ad t), ((ad 1), e_X1 (ad 2) (ad 3) (ad 4) t_now), ((ad 2), eI cA 8 t_now_kinds), ((ad 4), eI cA 8 t_now_pitches), ((ad 13), e_X0 (ad 14) (ad 15) (ad 16)), ((ad 14), eI cA 8 t_shelves_holding), ((ad 19), eI cA 5 o38.2), ((ad 20), e_X3 (ad 21) t_trial), ((ad 21), eI cA 13 t_trial_heard), ((ad 26), e_X4 (ad 27) t_tried), ((ad 27), eI cA 12 t_tried_sounds)]) (va_runV (As := [.int (-4 : Int32)]) (rest := []) ⟨hx, hb, hml, hown, htg⟩ (c_X5_refuse l D cA _ fu ad t t_refusals (-4 : Int32) o38 ho39) (cwV 1 htg (gV q_2_10 q_2_12 q_p1_0 q_1_1 q_2_13) rfl rfl rfl hd_X5_refuse ⟨Nat.le_of_ble_eq_true rfl, Nat.le_of_ble_eq_true rfl⟩) (xpV hN hK hP hD [0, 6] rfl (by decide) rfl rfl) rfl rfl hl.1 rfl (lv_room (Nat.le_of_ble_eq_true rfl)) dX5_says_35 ⟨Nat.zero_le _, Nat.zero_le _⟩) hP hD hS hA [0, 6] [1, 2, 3, 4, 5, 7, 8, 9, 10] [9, 0, 1, 2, 3, 4, 10, 5, 6, 7, 8] rfl rfl (by decide) (by decide) rfl (by decide) (fun H locs hP hD hS => ?_)
        rw [hQ]
        exact W.iret (v := o38.1) hx hb hr (fun t9 ht hW => ⟨⟨o38.1, (o38.2, t_trial, t_trial_heard, t_tried, t_tried_sounds), rfl, (Option.some.inj hm), by rw [ht]; exact hP, va_K.moved hW.alike hK, hD⟩, hS.F ht⟩) hS.2.2 dX5_says_38
    · have hm := it_t c19 hm
      exact B_14 _ _ _ _ _ _ _ _ hm hP hD hS (lv_sub hl [0] rfl)
def b_X5_voice_27 (fu : Nat) (t : Nat → Int32) (t_now : Nat → Int32) (t_now_kinds : Nat → Int32) (t_now_as : Nat → Int32) (t_now_pitches : Nat → Int32) (t_refusals : Nat → Int32) : Option (Int32 × ((Nat → Int32) × (Nat → Int32) × (Nat → Int32) × (Nat → Int32) × (Nat → Int32))) :=
  (m_X5_refuse fu t t_refusals (-2 : Int32)).bind fun o1 =>
    some (o1.1, (t_now, t_now_kinds, t_now_as, t_now_pitches, o1.2))
def m_X5_voice (fu : Nat) (t : Nat → Int32) (t_now : Nat → Int32) (t_now_kinds : Nat → Int32) (t_now_as : Nat → Int32) (t_now_pitches : Nat → Int32) (t_refusals : Nat → Int32) (l1 : Int32) (l2 : Int32) (l3 : Int32) : Option (Int32 × ((Nat → Int32) × (Nat → Int32) × (Nat → Int32) × (Nat → Int32) × (Nat → Int32))) :=
  (m_X5_isKind fu l1).bind fun o3 =>
  (if o3.1 = 0 then
    b_X5_voice_27 fu t t_now t_now_kinds t_now_as t_now_pitches t_refusals
  else
    (m_X5_isWithin fu l2 (0 : Int32) (9 : Int32)).bind fun o6 =>
    (if o6.1 = 0 then
      b_X5_voice_27 fu t t_now t_now_kinds t_now_as t_now_pitches t_refusals
    else
      (m_X5_isWithin fu l3 (0 : Int32) (20 : Int32)).bind fun o9 =>
      (if o9.1 = 0 then
        b_X5_voice_27 fu t t_now t_now_kinds t_now_as t_now_pitches t_refusals
      else
        (m_X1_hasRoom fu t_now).bind fun o12 =>
        (if o12.1 = 0 then
          (m_X5_refuse fu t t_refusals (-6 : Int32)).bind fun o17 =>
          some (o17.1, (t_now, t_now_kinds, t_now_as, t_now_pitches, o17.2))
        else
          (m_X1_addVoice fu t_now t_now_kinds t_now_as t_now_pitches l1 l2 l3).bind fun o15 =>
          some ((o15.1 8 - (1 : Int32)), (o15.1, o15.2.1, o15.2.2.1, o15.2.2.2, t_refusals))))))
abbrev rm_X5_voice : Room := ({ frames := 2, cells := 0, slots := 0, locals := 45 } : Room)
abbrev w0_X5_voice (cA : Nat → ClassId) (ad : Nat → Nat) (t : Nat → Int32) (t_now : Nat → Int32) (t_now_kinds : Nat → Int32) (t_now_as : Nat → Int32) (t_now_pitches : Nat → Int32) (t_refusals : Nat → Int32) : va_W := [((ad 0), e_X5 ad t), ((ad 1), e_X1 (ad 2) (ad 3) (ad 4) t_now), ((ad 2), eI cA 8 t_now_kinds), ((ad 3), eI cA 8 t_now_as), ((ad 4), eI cA 8 t_now_pitches), ((ad 19), eI cA 5 t_refusals)]
abbrev w1_X5_voice (cA : Nat → ClassId) (ad : Nat → Nat) (t : Nat → Int32) (u : (Nat → Int32) × (Nat → Int32) × (Nat → Int32) × (Nat → Int32) × (Nat → Int32)) : va_W := [((ad 0), e_X5 ad t), ((ad 1), e_X1 (ad 2) (ad 3) (ad 4) u.1), ((ad 2), eI cA 8 u.2.1), ((ad 3), eI cA 8 u.2.2.1), ((ad 4), eI cA 8 u.2.2.2.1), ((ad 19), eI cA 5 u.2.2.2.2)]
theorem hd_X5_voice : yX5_voice.cls = RX5 ∧ yX5_voice.cls ≠ "java/lang/invoke/MethodHandle" ∧ yX5_voice.cls ≠ "java/lang/invoke/VarHandle" ∧ (parseMethodDescriptor yX5_voice.desc).map (fun d => d.parameters.length) = some 3 := by decide +kernel
set_option maxHeartbeats 40000000 in
set_option maxRecDepth 100000 in
theorem c_X5_voice (l : Launch) (D : va_G) (cA : Nat → ClassId) (sz : Nat) (fu : Nat) (ad : Nat → Nat) (t : Nat → Int32) (t_now : Nat → Int32) (t_now_kinds : Nat → Int32) (t_now_as : Nat → Int32) (t_now_pitches : Nat → Int32) (t_refusals : Nat → Int32) (l1 : Int32) (l2 : Int32) (l3 : Int32) (out : Int32 × ((Nat → Int32) × (Nat → Int32) × (Nat → Int32) × (Nat → Int32) × (Nat → Int32))) (hm : m_X5_voice fu t t_now t_now_kinds t_now_as t_now_pitches t_refusals l1 l2 l3 = some out) : MI l yX5_voice (wU yX5_voice cX5_voice 4 ((Option.some Jvm.ClassFile.FieldType.int))) rm_X5_voice D cA sz [.ref (ad 0), .int l1, .int l2, .int l3] (w0_X5_voice cA ad t t_now t_now_kinds t_now_as t_now_pitches t_refusals) out (w1_X5_voice cA ad t) := by
  refine Met.ofW (cc := cX5_voice) (maxL := 4) (ret := (Option.some Jvm.ClassFile.FieldType.int)) (by decide) rfl ?_
  intro p e s m args below meth c s₁ B hml hv
  obtain ⟨hargs, hsz, hP, hK, hD0, hN⟩ := hv
  have hx := B.exec
  have hb := B.bytes
  have hr := B.returns
  have htg : ∀ w ∈ gw, w.before args s = true := fun w h => atoms_spec (ws := wU yX5_voice cX5_voice 4 ((Option.some Jvm.ClassFile.FieldType.int))) B.pre w (List.mem_cons_of_mem _ h)
  have hown : s.vm.findClass RX5 = some m.cls := findClass_of_methodNamed B.named
  have hlocks := B.notSynchronized
  subst hsz
  have hD := hD0.self (sz := s.heap.size)
  have hA : ∀ q : Nat, s.heap.size ≤ q → va_A (w0_X5_voice cA ad t t_now t_now_kinds t_now_as t_now_pitches t_refusals) s.heap.size q := fun q h => Or.inr h
  have hS : va_S (va_A (w0_X5_voice cA ad t t_now t_now_kinds t_now_as t_now_pitches t_refusals) s.heap.size) s.heap s.heap [] := va_S.rf
  generalize va_A (w0_X5_voice cA ad t t_now t_now_kinds t_now_as t_now_pitches t_refusals) s.heap.size = A at hA hD hS ⊢
  obtain ⟨Q, hQ⟩ : ∃ Q : State → Prop, Q = MQ below (va_Qi (fun (r : Int32) (u : (Nat → Int32) × (Nat → Int32) × (Nat → Int32) × (Nat → Int32) × (Nat → Int32)) => (r, u) = out) (pst0 D cA A (w1_X5_voice cA ad t)) A) args s 0 0 A := ⟨_, rfl⟩
  refine (?_ : W p l e rm_X5_voice s m args below meth c s.heap [] 0 0 (MQ below (va_Qi (fun (r : Int32) (u : (Nat → Int32) × (Nat → Int32) × (Nat → Int32) × (Nat → Int32) × (Nat → Int32)) => (r, u) = out) (pst0 D cA A (w1_X5_voice cA ad t)) A) args s 0 0 A) (entryFrame m args 4))
  rw [← hQ]
  have hP : va_P D CL [((ad 0), e_X5 ad t), ((ad 1), e_X1 (ad 2) (ad 3) (ad 4) t_now), ((ad 2), eI cA 8 t_now_kinds), ((ad 3), eI cA 8 t_now_as), ((ad 4), eI cA 8 t_now_pitches), ((ad 19), eI cA 5 t_refusals)] s.heap := hP
  have hD : va_D A [((ad 0), e_X5 ad t), ((ad 1), e_X1 (ad 2) (ad 3) (ad 4) t_now), ((ad 2), eI cA 8 t_now_kinds), ((ad 3), eI cA 8 t_now_as), ((ad 4), eI cA 8 t_now_pitches), ((ad 19), eI cA 5 t_refusals)] := hD
  have B_27 : ∀ (t_now : Nat → Int32) (t_now_kinds : Nat → Int32) (t_now_as : Nat → Int32) (t_now_pitches : Nat → Int32) (t_refusals : Nat → Int32) (H : Heap) (locs : List Loc) (ls : Array Slot), b_X5_voice_27 fu t t_now t_now_kinds t_now_as t_now_pitches t_refusals = some out → va_P D CL [((ad 0), e_X5 ad t), ((ad 1), e_X1 (ad 2) (ad 3) (ad 4) t_now), ((ad 2), eI cA 8 t_now_kinds), ((ad 3), eI cA 8 t_now_as), ((ad 4), eI cA 8 t_now_pitches), ((ad 19), eI cA 5 t_refusals)] H → va_D A [((ad 0), e_X5 ad t), ((ad 1), e_X1 (ad 2) (ad 3) (ad 4) t_now), ((ad 2), eI cA 8 t_now_kinds), ((ad 3), eI cA 8 t_now_as), ((ad 4), eI cA 8 t_now_pitches), ((ad 19), eI cA 5 t_refusals)] → va_S A s.heap H locs → lv_has ls 4 [(0, .ref (ad 0))] → W p l e rm_X5_voice s m args below meth c H locs 0 0 Q (F0 m 27 ls []) := by
    intro  t_now t_now_kinds t_now_as t_now_pitches t_refusals H locs ls hm hP hD hS hl
    unfold b_X5_voice_27 at hm
    refine lv_aload_n hx hb dX5_voice_27 rfl (lv_at hl 0 rfl) ?_
    refine lv_bipush (v := (-2 : Int32)) hx hb dX5_voice_28 (by decide) ?_
    obtain ⟨o1, ho2, hm⟩ := bd_s hm
    refine xr_i (wr := [((ad 1), e_X1 (ad 2) (ad 3) (ad 4) t_now), ((ad 2), eI cA 8 t_now_kinds), ((ad 3), eI cA 8 t_now_as), ((ad 4), eI cA 8 t_now_pitches)]) (wn := [((ad 0), e_X5 ad t), ((ad 1), e_X1 (ad 2) (ad 3) (ad 4) t_now), ((ad 2), eI cA 8 t_now_kinds), ((ad 3), eI cA 8 t_now_as), ((ad 4), eI cA 8 t_now_pitches), ((ad 19), eI cA 5 o1.2)]) (va_runV (As := [.int (-2 : Int32)]) (rest := []) ⟨hx, hb, hml, hown, htg⟩ (c_X5_refuse l D cA _ fu ad t t_refusals (-2 : Int32) o1 ho2) (cwV 1 htg (gV q_2_10 q_2_12 q_p1_0 q_1_1 q_2_13) rfl rfl rfl hd_X5_refuse ⟨Nat.le_of_ble_eq_true rfl, Nat.le_of_ble_eq_true rfl⟩) (xpV hN hK hP hD [0, 5] rfl (by decide) rfl rfl) rfl rfl hl.1 rfl (lv_room (Nat.le_of_ble_eq_true rfl)) dX5_voice_30 ⟨Nat.zero_le _, Nat.zero_le _⟩) hP hD hS hA [0, 5] [1, 2, 3, 4] [4, 0, 1, 2, 3, 5] rfl rfl (by decide) (by decide) rfl (by decide) (fun H locs hP hD hS => ?_)
    rw [hQ]
    exact W.iret (v := o1.1) hx hb hr (fun t9 ht hW => ⟨⟨o1.1, (t_now, t_now_kinds, t_now_as, t_now_pitches, o1.2), rfl, (Option.some.inj hm), by rw [ht]; exact hP, va_K.moved hW.alike hK, hD⟩, hS.F ht⟩) hS.2.2 dX5_voice_33
  unfold m_X5_voice at hm
  subst hargs
  have hl := lv_entry ([.ref (ad 0), .int l1, .int l2, .int l3]) (n := 4) (Nat.le_of_ble_eq_true rfl)
  rw [lg_entry_eq]
  generalize (lg_sl ([.ref (ad 0), .int l1, .int l2, .int l3]) ++ List.replicate (4 - (lg_sl ([.ref (ad 0), .int l1, .int l2, .int l3])).length) Slot.unset).toArray = ls at hl ⊢
  have hl : lv_has ls 4 [(0, .ref (ad 0)), (1, .int l1), (2, .int l2), (3, .int l3)] := hl
  refine lv_iload_n hx hb dX5_voice_0 rfl (lv_at hl 1 rfl) ?_
  obtain ⟨o3, ho4, hm⟩ := bd_s hm
  refine xr_i (wr := [((ad 0), e_X5 ad t), ((ad 1), e_X1 (ad 2) (ad 3) (ad 4) t_now), ((ad 2), eI cA 8 t_now_kinds), ((ad 3), eI cA 8 t_now_as), ((ad 4), eI cA 8 t_now_pitches), ((ad 19), eI cA 5 t_refusals)]) (wn := [((ad 0), e_X5 ad t), ((ad 1), e_X1 (ad 2) (ad 3) (ad 4) t_now), ((ad 2), eI cA 8 t_now_kinds), ((ad 3), eI cA 8 t_now_as), ((ad 4), eI cA 8 t_now_pitches), ((ad 19), eI cA 5 t_refusals)]) (va_runS (As := [.int l1]) (rest := []) ⟨hx, hb, hml, hown, htg⟩ (c_X5_isKind l D cA _ fu l1 o3 ho4) (cwS 1 htg (gS q_2_99 q_2_100 q_1_1 q_2_101) rfl rfl rfl hd_X5_isKind ⟨Nat.le_of_ble_eq_true rfl, Nat.le_of_ble_eq_true rfl⟩) (xpS hN hK hP hD [] rfl (by decide)) rfl rfl hl.1 rfl (lv_room (Nat.le_of_ble_eq_true rfl)) dX5_voice_1 ⟨Nat.zero_le _, Nat.zero_le _⟩) hP hD hS hA [] [0, 1, 2, 3, 4, 5] [0, 1, 2, 3, 4, 5] rfl rfl (by decide) (by decide) rfl (by decide) (fun H locs hP hD hS => ?_)
  refine lv_if_eq (tgt := 27) hx hb dX5_voice_4 (by decide) (fun c5 => ?_) (fun c5 => ?_)
  · have hm := it_t c5 hm
    exact B_27 _ _ _ _ _ _ _ _ hm hP hD hS (lv_sub hl [0] rfl)
  · have hm := it_f c5 hm
    refine lv_iload_n hx hb dX5_voice_7 rfl (lv_at hl 2 rfl) ?_
    refine lv_iconst (v := (0 : Int32)) hx hb dX5_voice_8 (by decide) ?_
    refine lv_bipush (v := (9 : Int32)) hx hb dX5_voice_9 (by decide) ?_
    obtain ⟨o6, ho7, hm⟩ := bd_s hm
    refine xr_i (wr := [((ad 0), e_X5 ad t), ((ad 1), e_X1 (ad 2) (ad 3) (ad 4) t_now), ((ad 2), eI cA 8 t_now_kinds), ((ad 3), eI cA 8 t_now_as), ((ad 4), eI cA 8 t_now_pitches), ((ad 19), eI cA 5 t_refusals)]) (wn := [((ad 0), e_X5 ad t), ((ad 1), e_X1 (ad 2) (ad 3) (ad 4) t_now), ((ad 2), eI cA 8 t_now_kinds), ((ad 3), eI cA 8 t_now_as), ((ad 4), eI cA 8 t_now_pitches), ((ad 19), eI cA 5 t_refusals)]) (va_runS (As := [.int l2, .int (0 : Int32), .int (9 : Int32)]) (rest := []) ⟨hx, hb, hml, hown, htg⟩ (c_X5_isWithin l D cA _ fu l2 (0 : Int32) (9 : Int32) o6 ho7) (cwS 3 htg (gS q_2_7 q_2_8 q_1_1 q_2_9) rfl rfl rfl hd_X5_isWithin ⟨Nat.le_of_ble_eq_true rfl, Nat.le_of_ble_eq_true rfl⟩) (xpS hN hK hP hD [] rfl (by decide)) rfl rfl hl.1 rfl (lv_room (Nat.le_of_ble_eq_true rfl)) dX5_voice_11 ⟨Nat.zero_le _, Nat.zero_le _⟩) hP hD hS hA [] [0, 1, 2, 3, 4, 5] [0, 1, 2, 3, 4, 5] rfl rfl (by decide) (by decide) rfl (by decide) (fun H locs hP hD hS => ?_)
    refine lv_if_eq (tgt := 27) hx hb dX5_voice_14 (by decide) (fun c8 => ?_) (fun c8 => ?_)
    · have hm := it_t c8 hm
      exact B_27 _ _ _ _ _ _ _ _ hm hP hD hS (lv_sub hl [0] rfl)
    · have hm := it_f c8 hm
      refine lv_iload_n hx hb dX5_voice_17 rfl (lv_at hl 3 rfl) ?_
      refine lv_iconst (v := (0 : Int32)) hx hb dX5_voice_18 (by decide) ?_
      refine lv_bipush (v := (20 : Int32)) hx hb dX5_voice_19 (by decide) ?_
      obtain ⟨o9, ho10, hm⟩ := bd_s hm
      refine xr_i (wr := [((ad 0), e_X5 ad t), ((ad 1), e_X1 (ad 2) (ad 3) (ad 4) t_now), ((ad 2), eI cA 8 t_now_kinds), ((ad 3), eI cA 8 t_now_as), ((ad 4), eI cA 8 t_now_pitches), ((ad 19), eI cA 5 t_refusals)]) (wn := [((ad 0), e_X5 ad t), ((ad 1), e_X1 (ad 2) (ad 3) (ad 4) t_now), ((ad 2), eI cA 8 t_now_kinds), ((ad 3), eI cA 8 t_now_as), ((ad 4), eI cA 8 t_now_pitches), ((ad 19), eI cA 5 t_refusals)]) (va_runS (As := [.int l3, .int (0 : Int32), .int (20 : Int32)]) (rest := []) ⟨hx, hb, hml, hown, htg⟩ (c_X5_isWithin l D cA _ fu l3 (0 : Int32) (20 : Int32) o9 ho10) (cwS 3 htg (gS q_2_7 q_2_8 q_1_1 q_2_9) rfl rfl rfl hd_X5_isWithin ⟨Nat.le_of_ble_eq_true rfl, Nat.le_of_ble_eq_true rfl⟩) (xpS hN hK hP hD [] rfl (by decide)) rfl rfl hl.1 rfl (lv_room (Nat.le_of_ble_eq_true rfl)) dX5_voice_21 ⟨Nat.zero_le _, Nat.zero_le _⟩) hP hD hS hA [] [0, 1, 2, 3, 4, 5] [0, 1, 2, 3, 4, 5] rfl rfl (by decide) (by decide) rfl (by decide) (fun H locs hP hD hS => ?_)
      refine lv_if_ne (tgt := 34) hx hb dX5_voice_24 (by decide) (fun c11 => ?_) (fun c11 => ?_)
      · have hm := it_f c11 hm
        refine lv_aload_n hx hb dX5_voice_34 rfl (lv_at hl 0 rfl) ?_
        refine va_get (D := D) (ci := 5) (v := .ref (ad 1)) (C := RX5) (T := TX5) (N := 17) hx hb htg inX5 hown hK hP 0 rfl rfl 0 (by decide) (htg _ q_1_188) (fun _ h9 => h9) rfl dX5_voice_35 ?_
        obtain ⟨o12, ho13, hm⟩ := bd_s hm
        refine xr_i (wr := [((ad 0), e_X5 ad t), ((ad 2), eI cA 8 t_now_kinds), ((ad 3), eI cA 8 t_now_as), ((ad 4), eI cA 8 t_now_pitches), ((ad 19), eI cA 5 t_refusals)]) (wn := [((ad 0), e_X5 ad t), ((ad 1), e_X1 (ad 2) (ad 3) (ad 4) t_now), ((ad 2), eI cA 8 t_now_kinds), ((ad 3), eI cA 8 t_now_as), ((ad 4), eI cA 8 t_now_pitches), ((ad 19), eI cA 5 t_refusals)]) (va_runVN (As := []) (rest := []) ⟨hx, hb, hml, hown, htg⟩ (c_X1_hasRoom l D cA _ fu (ad 1) (ad 2) (ad 3) (ad 4) t_now o12 ho13) ⟨va_cnB 0 htg (gU q_2_170) rfl rfl rfl (hN _ q_2_167) (htg _ q_1_2) hd_X1_hasRoom.2 ⟨Nat.le_of_ble_eq_true rfl, Nat.le_of_ble_eq_true rfl⟩, htg _ q_2_169, htg _ q_p2_9⟩ (xpV hN hK hP hD [1] rfl (by decide) rfl rfl) rfl rfl hl.1 rfl (lv_room (Nat.le_of_ble_eq_true rfl)) dX5_voice_38 ⟨Nat.zero_le _, Nat.zero_le _⟩) hP hD hS hA [1] [0, 2, 3, 4, 5] [0, 5, 1, 2, 3, 4] rfl rfl (by decide) (by decide) rfl (by decide) (fun H locs hP hD hS => ?_)
        refine lv_if_ne (tgt := 51) hx hb dX5_voice_41 (by decide) (fun c14 => ?_) (fun c14 => ?_)
        · have hm := it_f c14 hm
          refine lv_aload_n hx hb dX5_voice_51 rfl (lv_at hl 0 rfl) ?_
          refine va_get (D := D) (ci := 5) (v := .ref (ad 1)) (C := RX5) (T := TX5) (N := 17) hx hb htg inX5 hown hK hP 0 rfl rfl 0 (by decide) (htg _ q_1_188) (fun _ h9 => h9) rfl dX5_voice_52 ?_
          refine lv_iload_n hx hb dX5_voice_55 rfl (lv_at hl 1 rfl) ?_
          refine lv_iload_n hx hb dX5_voice_56 rfl (lv_at hl 2 rfl) ?_
          refine lv_iload_n hx hb dX5_voice_57 rfl (lv_at hl 3 rfl) ?_
          obtain ⟨o15, ho16, hm⟩ := bd_s hm
          refine xr_v (wr := [((ad 0), e_X5 ad t), ((ad 19), eI cA 5 t_refusals)]) (wn := [((ad 0), e_X5 ad t), ((ad 1), e_X1 (ad 2) (ad 3) (ad 4) o15.1), ((ad 2), eI cA 8 o15.2.1), ((ad 3), eI cA 8 o15.2.2.1), ((ad 4), eI cA 8 o15.2.2.2), ((ad 19), eI cA 5 t_refusals)]) (va_runVN (As := [.int l1, .int l2, .int l3]) (rest := []) ⟨hx, hb, hml, hown, htg⟩ (c_X1_addVoice l D cA _ fu (ad 1) (ad 2) (ad 3) (ad 4) t_now t_now_kinds t_now_as t_now_pitches l1 l2 l3 o15 ho16) ⟨va_cnB 3 htg (gU q_2_174) rfl rfl rfl (hN _ q_2_171) (htg _ q_1_2) hd_X1_addVoice.2 ⟨Nat.le_of_ble_eq_true rfl, Nat.le_of_ble_eq_true rfl⟩, htg _ q_2_173, htg _ q_p2_10⟩ (xpV hN hK hP hD [1, 2, 3, 4] rfl (by decide) rfl rfl) rfl rfl hl.1 rfl (lv_room (Nat.le_of_ble_eq_true rfl)) dX5_voice_58 ⟨Nat.zero_le _, Nat.zero_le _⟩) hP hD hS hA [1, 2, 3, 4] [0, 5] [0, 2, 3, 4, 5, 1] rfl rfl (by decide) (by decide) rfl (by decide) (fun H locs hP hD hS => ?_)
          refine lv_aload_n hx hb dX5_voice_61 rfl (lv_at hl 0 rfl) ?_
          refine va_get (D := D) (ci := 5) (v := .ref (ad 1)) (C := RX5) (T := TX5) (N := 17) hx hb htg inX5 hown hK hP 0 rfl rfl 0 (by decide) (htg _ q_1_188) (fun _ h9 => h9) rfl dX5_voice_62 ?_
          refine va_getN (D := D) (ci := 1) (v := .int (o15.1 8)) (C := RX1) (T := TX1) (N := 12) hx hb htg inX1 hown hK hP 1 rfl rfl 8 (by decide) (va_Nw.use rfl (hN _ q_1_58)) (fun _ h9 => h9) rfl dX5_voice_65 ?_
          refine lv_iconst (v := (1 : Int32)) hx hb dX5_voice_68 (by decide) ?_
          refine lv_isub hx hb dX5_voice_69 ?_
          rw [hQ]
          exact W.iret (v := (o15.1 8 - (1 : Int32))) hx hb hr (fun t9 ht hW => ⟨⟨(o15.1 8 - (1 : Int32)), (o15.1, o15.2.1, o15.2.2.1, o15.2.2.2, t_refusals), rfl, (Option.some.inj hm), by rw [ht]; exact hP, va_K.moved hW.alike hK, hD⟩, hS.F ht⟩) hS.2.2 dX5_voice_70
        · have hm := it_t c14 hm
          refine lv_aload_n hx hb dX5_voice_44 rfl (lv_at hl 0 rfl) ?_
          refine lv_bipush (v := (-6 : Int32)) hx hb dX5_voice_45 (by decide) ?_
          obtain ⟨o17, ho18, hm⟩ := bd_s hm
          refine xr_i (wr := [((ad 1), e_X1 (ad 2) (ad 3) (ad 4) t_now), ((ad 2), eI cA 8 t_now_kinds), ((ad 3), eI cA 8 t_now_as), ((ad 4), eI cA 8 t_now_pitches)]) (wn := [((ad 0), e_X5 ad t), ((ad 1), e_X1 (ad 2) (ad 3) (ad 4) t_now), ((ad 2), eI cA 8 t_now_kinds), ((ad 3), eI cA 8 t_now_as), ((ad 4), eI cA 8 t_now_pitches), ((ad 19), eI cA 5 o17.2)]) (va_runV (As := [.int (-6 : Int32)]) (rest := []) ⟨hx, hb, hml, hown, htg⟩ (c_X5_refuse l D cA _ fu ad t t_refusals (-6 : Int32) o17 ho18) (cwV 1 htg (gV q_2_10 q_2_12 q_p1_0 q_1_1 q_2_13) rfl rfl rfl hd_X5_refuse ⟨Nat.le_of_ble_eq_true rfl, Nat.le_of_ble_eq_true rfl⟩) (xpV hN hK hP hD [0, 5] rfl (by decide) rfl rfl) rfl rfl hl.1 rfl (lv_room (Nat.le_of_ble_eq_true rfl)) dX5_voice_47 ⟨Nat.zero_le _, Nat.zero_le _⟩) hP hD hS hA [0, 5] [1, 2, 3, 4] [4, 0, 1, 2, 3, 5] rfl rfl (by decide) (by decide) rfl (by decide) (fun H locs hP hD hS => ?_)
          rw [hQ]
          exact W.iret (v := o17.1) hx hb hr (fun t9 ht hW => ⟨⟨o17.1, (t_now, t_now_kinds, t_now_as, t_now_pitches, o17.2), rfl, (Option.some.inj hm), by rw [ht]; exact hP, va_K.moved hW.alike hK, hD⟩, hS.F ht⟩) hS.2.2 dX5_voice_50
      · have hm := it_t c11 hm
        exact B_27 _ _ _ _ _ _ _ _ hm hP hD hS (lv_sub hl [0] rfl)
