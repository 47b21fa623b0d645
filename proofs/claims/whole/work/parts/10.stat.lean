def b_X5_isWithin_15 (fu : Nat) (s0 : Int32) : Option (Int32 × Unit) :=
  gd (bz s0) (some (s0, ()))
def b_X5_isWithin_14 (fu : Nat)  : Option (Int32 × Unit) :=
  b_X5_isWithin_15 fu (0 : Int32)
def m_X5_isWithin (fu : Nat) (l0 : Int32) (l1 : Int32) (l2 : Int32) : Option (Int32 × Unit) :=
  (if l0 < l1 then
    b_X5_isWithin_14 fu 
  else
    (if l2 < l0 then
      b_X5_isWithin_14 fu 
    else
      b_X5_isWithin_15 fu (1 : Int32)))
abbrev rm_X5_isWithin : Room := ({ frames := 0, cells := 0, slots := 0, locals := 0 } : Room)
abbrev w0_X5_isWithin (cA : Nat → ClassId)  : va_W := []
abbrev w1_X5_isWithin (cA : Nat → ClassId)  (u : Unit) : va_W := []
theorem hd_X5_isWithin : yX5_isWithin.cls = RX5 ∧ yX5_isWithin.cls ≠ "java/lang/invoke/MethodHandle" ∧ yX5_isWithin.cls ≠ "java/lang/invoke/VarHandle" ∧ (parseMethodDescriptor yX5_isWithin.desc).map (fun d => d.parameters.length) = some 3 := by decide +kernel
set_option maxHeartbeats 40000000 in
set_option maxRecDepth 100000 in
theorem c_X5_isWithin (l : Launch) (D : va_G) (cA : Nat → ClassId) (sz : Nat) (fu : Nat) (l0 : Int32) (l1 : Int32) (l2 : Int32) (out : Int32 × Unit) (hm : m_X5_isWithin fu l0 l1 l2 = some out) : MI l yX5_isWithin (wU yX5_isWithin cX5_isWithin 3 ((Option.some Jvm.ClassFile.FieldType.boolean))) rm_X5_isWithin D cA sz [.int l0, .int l1, .int l2] (w0_X5_isWithin cA ) out (w1_X5_isWithin cA ) := by
  refine Met.ofW (cc := cX5_isWithin) (maxL := 3) (ret := (Option.some Jvm.ClassFile.FieldType.boolean)) (by decide) rfl ?_
  intro p e s m args below meth c s₁ B hml hv
  obtain ⟨hargs, hsz, hP, hK, hD0, hN⟩ := hv
  have hx := B.exec
  have hb := B.bytes
  have hr := B.returns
  have htg : ∀ w ∈ gw, w.before args s = true := fun w h => atoms_spec (ws := wU yX5_isWithin cX5_isWithin 3 ((Option.some Jvm.ClassFile.FieldType.boolean))) B.pre w (List.mem_cons_of_mem _ h)
  have hown : s.vm.findClass RX5 = some m.cls := findClass_of_methodNamed B.named
  have hlocks := B.notSynchronized
  subst hsz
  have hD := hD0.self (sz := s.heap.size)
  have hA : ∀ q : Nat, s.heap.size ≤ q → va_A (w0_X5_isWithin cA ) s.heap.size q := fun q h => Or.inr h
  have hS : va_S (va_A (w0_X5_isWithin cA ) s.heap.size) s.heap s.heap [] := va_S.rf
  generalize va_A (w0_X5_isWithin cA ) s.heap.size = A at hA hD hS ⊢
  obtain ⟨Q, hQ⟩ : ∃ Q : State → Prop, Q = MQ below (va_Qi (fun (r : Int32) (u : Unit) => (r, u) = out) (pst0 D cA A (w1_X5_isWithin cA )) A) args s 0 0 A := ⟨_, rfl⟩
  refine (?_ : W p l e rm_X5_isWithin s m args below meth c s.heap [] 0 0 (MQ below (va_Qi (fun (r : Int32) (u : Unit) => (r, u) = out) (pst0 D cA A (w1_X5_isWithin cA )) A) args s 0 0 A) (entryFrame m args 3))
  rw [← hQ]
  have hP : va_P D CL [] s.heap := hP
  have hD : va_D A [] := hD
  have B_15 : ∀ (s0 : Int32) (H : Heap) (locs : List Loc) (ls : Array Slot), b_X5_isWithin_15 fu s0 = some out → va_P D CL [] H → va_D A [] → va_S A s.heap H locs → lv_has ls 3 [] → W p l e rm_X5_isWithin s m args below meth c H locs 0 0 Q (F0 m 15 ls [.int s0]) := by
    intro  s0 H locs ls hm hP hD hS hl
    unfold b_X5_isWithin_15 at hm
    obtain ⟨hz1, hm⟩ := gd_s hm
    rw [hQ]
    exact W.zret (v := s0) hx hb hr (bz_nr hz1) (fun t9 ht hW => ⟨⟨s0, (), rfl, (Option.some.inj hm), by rw [ht]; exact hP, va_K.moved hW.alike hK, hD⟩, hS.F ht⟩) hS.2.2 dX5_isWithin_15
  have B_14 : ∀  (H : Heap) (locs : List Loc) (ls : Array Slot), b_X5_isWithin_14 fu  = some out → va_P D CL [] H → va_D A [] → va_S A s.heap H locs → lv_has ls 3 [] → W p l e rm_X5_isWithin s m args below meth c H locs 0 0 Q (F0 m 14 ls []) := by
    intro   H locs ls hm hP hD hS hl
    unfold b_X5_isWithin_14 at hm
    refine lv_iconst (v := (0 : Int32)) hx hb dX5_isWithin_14 (by decide) ?_
    exact B_15 _ _ _ _ hm hP hD hS (lv_sub hl [] rfl)
  unfold m_X5_isWithin at hm
  subst hargs
  have hl := lv_entry ([.int l0, .int l1, .int l2]) (n := 3) (Nat.le_of_ble_eq_true rfl)
  rw [lg_entry_eq]
  generalize (lg_sl ([.int l0, .int l1, .int l2]) ++ List.replicate (3 - (lg_sl ([.int l0, .int l1, .int l2])).length) Slot.unset).toArray = ls at hl ⊢
  have hl : lv_has ls 3 [(0, .int l0), (1, .int l1), (2, .int l2)] := hl
  refine lv_iload_n hx hb dX5_isWithin_0 rfl (lv_at hl 0 rfl) ?_
  refine lv_iload_n hx hb dX5_isWithin_1 rfl (lv_at hl 1 rfl) ?_
  refine lv_icmp_lt (tgt := 14) hx hb dX5_isWithin_2 (by decide) (fun c2 => ?_) (fun c2 => ?_)
  · have hm := it_t c2 hm
    exact B_14  _ _ _ hm hP hD hS (lv_sub hl [] rfl)
  · have hm := it_f c2 hm
    refine lv_iload_n hx hb dX5_isWithin_5 rfl (lv_at hl 0 rfl) ?_
    refine lv_iload_n hx hb dX5_isWithin_6 rfl (lv_at hl 2 rfl) ?_
    refine lv_icmp_gt (tgt := 14) hx hb dX5_isWithin_7 (by decide) (fun c3 => ?_) (fun c3 => ?_)
    · have hm := it_t c3 hm
      exact B_14  _ _ _ hm hP hD hS (lv_sub hl [] rfl)
    · have hm := it_f c3 hm
      refine lv_iconst (v := (1 : Int32)) hx hb dX5_isWithin_10 (by decide) ?_
      refine lv_goto (tgt := 15) hx hb dX5_isWithin_11 (by decide) ?_
      exact B_15 _ _ _ _ hm hP hD hS (lv_sub hl [] rfl)
def m_X5_isShelf (fu : Nat) (l0 : Int32) : Option (Int32 × Unit) :=
  (m_X5_isWithin fu l0 (0 : Int32) (7 : Int32)).bind fun o1 =>
  gd (bz o1.1) (some (o1.1, ()))
abbrev rm_X5_isShelf : Room := ({ frames := 1, cells := 0, slots := 0, locals := 22 } : Room)
abbrev w0_X5_isShelf (cA : Nat → ClassId)  : va_W := []
abbrev w1_X5_isShelf (cA : Nat → ClassId)  (u : Unit) : va_W := []
theorem hd_X5_isShelf : yX5_isShelf.cls = RX5 ∧ yX5_isShelf.cls ≠ "java/lang/invoke/MethodHandle" ∧ yX5_isShelf.cls ≠ "java/lang/invoke/VarHandle" ∧ (parseMethodDescriptor yX5_isShelf.desc).map (fun d => d.parameters.length) = some 1 := by decide +kernel
set_option maxHeartbeats 40000000 in
set_option maxRecDepth 100000 in
theorem c_X5_isShelf (l : Launch) (D : va_G) (cA : Nat → ClassId) (sz : Nat) (fu : Nat) (l0 : Int32) (out : Int32 × Unit) (hm : m_X5_isShelf fu l0 = some out) : MI l yX5_isShelf (wU yX5_isShelf cX5_isShelf 1 ((Option.some Jvm.ClassFile.FieldType.boolean))) rm_X5_isShelf D cA sz [.int l0] (w0_X5_isShelf cA ) out (w1_X5_isShelf cA ) := by
  refine Met.ofW (cc := cX5_isShelf) (maxL := 1) (ret := (Option.some Jvm.ClassFile.FieldType.boolean)) (by decide) rfl ?_
  intro p e s m args below meth c s₁ B hml hv
  obtain ⟨hargs, hsz, hP, hK, hD0, hN⟩ := hv
  have hx := B.exec
  have hb := B.bytes
  have hr := B.returns
  have htg : ∀ w ∈ gw, w.before args s = true := fun w h => atoms_spec (ws := wU yX5_isShelf cX5_isShelf 1 ((Option.some Jvm.ClassFile.FieldType.boolean))) B.pre w (List.mem_cons_of_mem _ h)
  have hown : s.vm.findClass RX5 = some m.cls := findClass_of_methodNamed B.named
  have hlocks := B.notSynchronized
  subst hsz
  have hD := hD0.self (sz := s.heap.size)
  have hA : ∀ q : Nat, s.heap.size ≤ q → va_A (w0_X5_isShelf cA ) s.heap.size q := fun q h => Or.inr h
  have hS : va_S (va_A (w0_X5_isShelf cA ) s.heap.size) s.heap s.heap [] := va_S.rf
  generalize va_A (w0_X5_isShelf cA ) s.heap.size = A at hA hD hS ⊢
  obtain ⟨Q, hQ⟩ : ∃ Q : State → Prop, Q = MQ below (va_Qi (fun (r : Int32) (u : Unit) => (r, u) = out) (pst0 D cA A (w1_X5_isShelf cA )) A) args s 0 0 A := ⟨_, rfl⟩
  refine (?_ : W p l e rm_X5_isShelf s m args below meth c s.heap [] 0 0 (MQ below (va_Qi (fun (r : Int32) (u : Unit) => (r, u) = out) (pst0 D cA A (w1_X5_isShelf cA )) A) args s 0 0 A) (entryFrame m args 1))
  rw [← hQ]
  have hP : va_P D CL [] s.heap := hP
  have hD : va_D A [] := hD
  unfold m_X5_isShelf at hm
  subst hargs
  have hl := lv_entry ([.int l0]) (n := 1) (Nat.le_of_ble_eq_true rfl)
  rw [lg_entry_eq]
  generalize (lg_sl ([.int l0]) ++ List.replicate (1 - (lg_sl ([.int l0])).length) Slot.unset).toArray = ls at hl ⊢
  have hl : lv_has ls 1 [(0, .int l0)] := hl
  refine lv_iload_n hx hb dX5_isShelf_0 rfl (lv_at hl 0 rfl) ?_
  refine lv_iconst (v := (0 : Int32)) hx hb dX5_isShelf_1 (by decide) ?_
  refine lv_bipush (v := (7 : Int32)) hx hb dX5_isShelf_2 (by decide) ?_
  obtain ⟨o1, ho2, hm⟩ := bd_s hm
  refine xr_i (wr := []) (wn := []) (va_runS (As := [.int l0, .int (0 : Int32), .int (7 : Int32)]) (rest := []) ⟨hx, hb, hml, hown, htg⟩ (c_X5_isWithin l D cA _ fu l0 (0 : Int32) (7 : Int32) o1 ho2) (cwS 3 htg (gS q_2_7 q_2_8 q_1_1 q_2_9) rfl rfl rfl hd_X5_isWithin ⟨Nat.le_of_ble_eq_true rfl, Nat.le_of_ble_eq_true rfl⟩) (xpS hN hK hP hD [] rfl (by decide)) rfl rfl hl.1 rfl (lv_room (Nat.le_of_ble_eq_true rfl)) dX5_isShelf_4 ⟨Nat.zero_le _, Nat.zero_le _⟩) hP hD hS hA [] [] [] rfl rfl (by decide) (by decide) rfl (by decide) (fun H locs hP hD hS => ?_)
  obtain ⟨hz3, hm⟩ := gd_s hm
  rw [hQ]
  exact W.zret (v := o1.1) hx hb hr (bz_nr hz3) (fun t9 ht hW => ⟨⟨o1.1, (), rfl, (Option.some.inj hm), by rw [ht]; exact hP, va_K.moved hW.alike hK, hD⟩, hS.F ht⟩) hS.2.2 dX5_isShelf_7
def m_J7_rangeCheck_23922 (fu : Nat) (l0 : Int32) (l1 : Int32) (l2 : Int32) : Option (Unit) :=
  (if l1 ≤ l2 then
    (if 0 ≤ l1 then
      (if l2 ≤ l0 then
        some ()
      else
        none)
    else
      none)
  else
    none)
abbrev rm_J7_rangeCheck_23922 : Room := ({ frames := 0, cells := 0, slots := 0, locals := 0 } : Room)
abbrev w0_J7_rangeCheck_23922 (cA : Nat → ClassId)  : va_W := []
abbrev w1_J7_rangeCheck_23922 (cA : Nat → ClassId)  (u : Unit) : va_W := []
theorem hd_J7_rangeCheck_23922 : yJ7_rangeCheck_23922.cls = RJ7 ∧ yJ7_rangeCheck_23922.cls ≠ "java/lang/invoke/MethodHandle" ∧ yJ7_rangeCheck_23922.cls ≠ "java/lang/invoke/VarHandle" ∧ (parseMethodDescriptor yJ7_rangeCheck_23922.desc).map (fun d => d.parameters.length) = some 3 := by decide +kernel
set_option maxHeartbeats 40000000 in
set_option maxRecDepth 100000 in
theorem c_J7_rangeCheck_23922 (l : Launch) (D : va_G) (cA : Nat → ClassId) (sz : Nat) (fu : Nat) (l0 : Int32) (l1 : Int32) (l2 : Int32) (out : Unit) (hm : m_J7_rangeCheck_23922 fu l0 l1 l2 = some out) : MV l yJ7_rangeCheck_23922 (wU yJ7_rangeCheck_23922 cJ7_rangeCheck_23922 3 ((Option.none : Option Jvm.ClassFile.FieldType))) rm_J7_rangeCheck_23922 D cA sz [.int l0, .int l1, .int l2] (w0_J7_rangeCheck_23922 cA ) out (w1_J7_rangeCheck_23922 cA ) := by
  refine Met.ofW (cc := cJ7_rangeCheck_23922) (maxL := 3) (ret := (Option.none : Option Jvm.ClassFile.FieldType)) (by decide) rfl ?_
  intro p e s m args below meth c s₁ B hml hv
  obtain ⟨hargs, hsz, hP, hK, hD0, hN⟩ := hv
  have hx := B.exec
  have hb := B.bytes
  have hr := B.returns
  have htg : ∀ w ∈ gw, w.before args s = true := fun w h => atoms_spec (ws := wU yJ7_rangeCheck_23922 cJ7_rangeCheck_23922 3 ((Option.none : Option Jvm.ClassFile.FieldType))) B.pre w (List.mem_cons_of_mem _ h)
  have hown : s.vm.findClass RJ7 = some m.cls := findClass_of_methodNamed B.named
  have hlocks := B.notSynchronized
  subst hsz
  have hD := hD0.self (sz := s.heap.size)
  have hA : ∀ q : Nat, s.heap.size ≤ q → va_A (w0_J7_rangeCheck_23922 cA ) s.heap.size q := fun q h => Or.inr h
  have hS : va_S (va_A (w0_J7_rangeCheck_23922 cA ) s.heap.size) s.heap s.heap [] := va_S.rf
  generalize va_A (w0_J7_rangeCheck_23922 cA ) s.heap.size = A at hA hD hS ⊢
  obtain ⟨Q, hQ⟩ : ∃ Q : State → Prop, Q = MQ below (va_Qv (fun (u : Unit) => u = out) (pst0 D cA A (w1_J7_rangeCheck_23922 cA )) A) args s 0 0 A := ⟨_, rfl⟩
  refine (?_ : W p l e rm_J7_rangeCheck_23922 s m args below meth c s.heap [] 0 0 (MQ below (va_Qv (fun (u : Unit) => u = out) (pst0 D cA A (w1_J7_rangeCheck_23922 cA )) A) args s 0 0 A) (entryFrame m args 3))
  rw [← hQ]
  have hP : va_P D CL [] s.heap := hP
  have hD : va_D A [] := hD
  unfold m_J7_rangeCheck_23922 at hm
  subst hargs
  have hl := lv_entry ([.int l0, .int l1, .int l2]) (n := 3) (Nat.le_of_ble_eq_true rfl)
  rw [lg_entry_eq]
  generalize (lg_sl ([.int l0, .int l1, .int l2]) ++ List.replicate (3 - (lg_sl ([.int l0, .int l1, .int l2])).length) Slot.unset).toArray = ls at hl ⊢
  have hl : lv_has ls 3 [(0, .int l0), (1, .int l1), (2, .int l2)] := hl
  refine lv_iload_n hx hb dJ7_rangeCheck_23922_0 rfl (lv_at hl 1 rfl) ?_
  refine lv_iload_n hx hb dJ7_rangeCheck_23922_1 rfl (lv_at hl 2 rfl) ?_
  refine lv_icmp_le (tgt := 46) hx hb dJ7_rangeCheck_23922_2 (by decide) (fun c1 => ?_) (fun c1 => ?_)
  · have hm := it_t c1 hm
    refine lv_iload_n hx hb dJ7_rangeCheck_23922_46 rfl (lv_at hl 1 rfl) ?_
    refine lv_if_ge (tgt := 59) hx hb dJ7_rangeCheck_23922_47 (by decide) (fun c2 => ?_) (fun c2 => ?_)
    · have hm := it_t c2 hm
      refine lv_iload_n hx hb dJ7_rangeCheck_23922_59 rfl (lv_at hl 2 rfl) ?_
      refine lv_iload_n hx hb dJ7_rangeCheck_23922_60 rfl (lv_at hl 0 rfl) ?_
      refine lv_icmp_le (tgt := 73) hx hb dJ7_rangeCheck_23922_61 (by decide) (fun c3 => ?_) (fun c3 => ?_)
      · have hm := it_t c3 hm
        rw [hQ]
        exact W.vret hx hb hr (fun t9 ht hW => ⟨⟨(), rfl, (Option.some.inj hm), by rw [ht]; exact hP, va_K.moved hW.alike hK, hD⟩, hS.F ht⟩) hS.2.2 dJ7_rangeCheck_23922_73
      · have hm := it_f c3 hm
        cases hm
    · have hm := it_f c2 hm
      cases hm
  · have hm := it_f c1 hm
    cases hm
def b_J7_fill_bad5a_10 (fu : Nat) (n_p0 : Nat) (k_10 : (Int32 × Int64 × Int32 × (Nat → Int64)) → Option ((Nat → Int64))) (x : Int32 × Int64 × Int32 × (Nat → Int64)) : Option ((Nat → Int64)) :=
  (if x.1 ≤ x.2.2.1 then
        some x.2.2.2
      else
        gd (inb x.2.2.1 n_p0) (
        k_10 (x.1, x.2.1, (x.2.2.1 + (1 : Int32)), (vp_updL x.2.2.2 x.2.2.1.toNatClampNeg x.2.1))))
def m_J7_fill_bad5a (fu : Nat) (n_p0 : Nat) (p0 : Nat → Int64) (l1 : Int32) (l2 : Int32) (l3 : Int64) : Option ((Nat → Int64)) :=
  (m_J7_rangeCheck_23922 fu (Int32.ofNat n_p0) l1 l2).bind fun o3 =>
  lfix (b_J7_fill_bad5a_10 fu n_p0) fu (l2, l3, l1, p0)
abbrev rm_J7_fill_bad5a : Room := ({ frames := 1, cells := 0, slots := 0, locals := 22 } : Room)
abbrev w0_J7_fill_bad5a (cA : Nat → ClassId) (p0a0 : Nat) (n_p0 : Nat) (p0 : Nat → Int64) : va_W := [(p0a0, eJ cA n_p0 p0)]
abbrev w1_J7_fill_bad5a (cA : Nat → ClassId) (p0a0 : Nat) (n_p0 : Nat) (u : (Nat → Int64)) : va_W := [(p0a0, eJ cA n_p0 u)]
theorem hd_J7_fill_bad5a : yJ7_fill_bad5a.cls = RJ7 ∧ yJ7_fill_bad5a.cls ≠ "java/lang/invoke/MethodHandle" ∧ yJ7_fill_bad5a.cls ≠ "java/lang/invoke/VarHandle" ∧ (parseMethodDescriptor yJ7_fill_bad5a.desc).map (fun d => d.parameters.length) = some 4 := by decide +kernel
set_option maxHeartbeats 40000000 in
set_option maxRecDepth 100000 in
theorem c_J7_fill_bad5a (l : Launch) (D : va_G) (cA : Nat → ClassId) (sz : Nat) (fu : Nat) (p0a0 : Nat) (n_p0 : Nat) (p0 : Nat → Int64) (l1 : Int32) (l2 : Int32) (l3 : Int64) (out : (Nat → Int64)) (hm : m_J7_fill_bad5a fu n_p0 p0 l1 l2 l3 = some out) : MV l yJ7_fill_bad5a (wU yJ7_fill_bad5a cJ7_fill_bad5a 6 ((Option.none : Option Jvm.ClassFile.FieldType))) rm_J7_fill_bad5a D cA sz [.ref p0a0, .int l1, .int l2, .long l3] (w0_J7_fill_bad5a cA p0a0 n_p0 p0) out (w1_J7_fill_bad5a cA p0a0 n_p0) := by
  refine Met.ofW (cc := cJ7_fill_bad5a) (maxL := 6) (ret := (Option.none : Option Jvm.ClassFile.FieldType)) (by decide) rfl ?_
  intro p e s m args below meth c s₁ B hml hv
  obtain ⟨hargs, hsz, hP, hK, hD0, hN⟩ := hv
  have hx := B.exec
  have hb := B.bytes
  have hr := B.returns
  have htg : ∀ w ∈ gw, w.before args s = true := fun w h => atoms_spec (ws := wU yJ7_fill_bad5a cJ7_fill_bad5a 6 ((Option.none : Option Jvm.ClassFile.FieldType))) B.pre w (List.mem_cons_of_mem _ h)
  have hown : s.vm.findClass RJ7 = some m.cls := findClass_of_methodNamed B.named
  have hlocks := B.notSynchronized
  subst hsz
  have hD := hD0.self (sz := s.heap.size)
  have hA : ∀ q : Nat, s.heap.size ≤ q → va_A (w0_J7_fill_bad5a cA p0a0 n_p0 p0) s.heap.size q := fun q h => Or.inr h
  have hS : va_S (va_A (w0_J7_fill_bad5a cA p0a0 n_p0 p0) s.heap.size) s.heap s.heap [] := va_S.rf
  generalize va_A (w0_J7_fill_bad5a cA p0a0 n_p0 p0) s.heap.size = A at hA hD hS ⊢
  obtain ⟨Q, hQ⟩ : ∃ Q : State → Prop, Q = MQ below (va_Qv (fun (u : (Nat → Int64)) => u = out) (pst0 D cA A (w1_J7_fill_bad5a cA p0a0 n_p0)) A) args s 0 0 A := ⟨_, rfl⟩
  refine (?_ : W p l e rm_J7_fill_bad5a s m args below meth c s.heap [] 0 0 (MQ below (va_Qv (fun (u : (Nat → Int64)) => u = out) (pst0 D cA A (w1_J7_fill_bad5a cA p0a0 n_p0)) A) args s 0 0 A) (entryFrame m args 6))
  rw [← hQ]
  have hP : va_P D CL [(p0a0, eJ cA n_p0 p0)] s.heap := hP
  have hD : va_D A [(p0a0, eJ cA n_p0 p0)] := hD
  have B_10 : ∀ (n : Nat) (x : Int32 × Int64 × Int32 × (Nat → Int64)) (H : Heap) (locs : List Loc) (ls : Array Slot), lfix (b_J7_fill_bad5a_10 fu n_p0) n x = some out → va_P D CL [(p0a0, eJ cA n_p0 x.2.2.2)] H → va_D A [(p0a0, eJ cA n_p0 x.2.2.2)] → va_S A s.heap H locs → lv_has ls 6 [(0, .ref p0a0), (2, .int x.1), (3, .long x.2.1), (5, .int x.2.2.1)] → W p l e rm_J7_fill_bad5a s m args below meth c H locs 0 0 Q (F0 m 10 ls []) := by
    intro  n
    induction n with
    | zero => intro x H locs ls hm; cases (show none = some out from hm)
    | succ n HK_10 =>
      intro x H locs ls hm hP hD hS hl
      replace hm : b_J7_fill_bad5a_10 fu n_p0 (lfix (b_J7_fill_bad5a_10 fu n_p0) n) x = some out := hm
      unfold b_J7_fill_bad5a_10 at hm
      refine lv_iload hx hb dJ7_fill_bad5a_10 (lv_at hl 3 rfl) ?_
      refine lv_iload_n hx hb dJ7_fill_bad5a_12 rfl (lv_at hl 1 rfl) ?_
      refine lv_icmp_ge (tgt := 27) hx hb dJ7_fill_bad5a_13 (by decide) (fun c1 => ?_) (fun c1 => ?_)
      · have hm := it_t c1 hm
        rw [hQ]
        exact W.vret hx hb hr (fun t9 ht hW => ⟨⟨x.2.2.2, rfl, (Option.some.inj hm), by rw [ht]; exact hP, va_K.moved hW.alike hK, hD⟩, hS.F ht⟩) hS.2.2 dJ7_fill_bad5a_27
      · have hm := it_f c1 hm
        refine lv_aload_n hx hb dJ7_fill_bad5a_16 rfl (lv_at hl 0 rfl) ?_
        refine lv_iload hx hb dJ7_fill_bad5a_17 (lv_at hl 3 rfl) ?_
        refine lv_lload_n hx hb dJ7_fill_bad5a_19 rfl (lv_at hl 2 rfl) ?_
        obtain ⟨hi2, hm⟩ := gd_s hm
        refine va_last hx hb hK hP hD hS 0 1 rfl rfl hi2 dJ7_fill_bad5a_20 (fun H locs (hP : va_P D CL [(p0a0, eJ cA n_p0 (vp_updL x.2.2.2 x.2.2.1.toNatClampNeg x.2.1))] H) (hD : va_D A [(p0a0, eJ cA n_p0 (vp_updL x.2.2.2 x.2.2.1.toNatClampNeg x.2.1))]) hS => ?_)
        refine lv_iinc (v := (x.2.2.1 + (1 : Int32))) (lv' := [(5, .int (x.2.2.1 + (1 : Int32))), (0, .ref p0a0), (2, .int x.1), (3, .long x.2.1)]) hx hb dJ7_fill_bad5a_21 hl (k := 3) rfl rfl (by decide) rfl (fun ls hl => ?_)
        refine lv_goto (tgt := 10) hx hb dJ7_fill_bad5a_24 (by decide) ?_
        exact HK_10 _ _ _ _ hm hP hD hS (lv_sub hl [1, 2, 3, 0] rfl)
  unfold m_J7_fill_bad5a at hm
  subst hargs
  have hl := lv_entry ([.ref p0a0, .int l1, .int l2, .long l3]) (n := 6) (Nat.le_of_ble_eq_true rfl)
  rw [lg_entry_eq]
  generalize (lg_sl ([.ref p0a0, .int l1, .int l2, .long l3]) ++ List.replicate (6 - (lg_sl ([.ref p0a0, .int l1, .int l2, .long l3])).length) Slot.unset).toArray = ls at hl ⊢
  have hl : lv_has ls 6 [(0, .ref p0a0), (1, .int l1), (2, .int l2), (3, .long l3)] := hl
  refine lv_aload_n hx hb dJ7_fill_bad5a_0 rfl (lv_at hl 0 rfl) ?_
  refine va_alen (v := (Int32.ofNat n_p0)) hx hb hK hP 0 1 rfl rfl rfl dJ7_fill_bad5a_1 ?_
  refine lv_iload_n hx hb dJ7_fill_bad5a_2 rfl (lv_at hl 1 rfl) ?_
  refine lv_iload_n hx hb dJ7_fill_bad5a_3 rfl (lv_at hl 2 rfl) ?_
  obtain ⟨o3, ho4, hm⟩ := bd_s hm
  refine xr_v (wr := [(p0a0, eJ cA n_p0 p0)]) (wn := [(p0a0, eJ cA n_p0 p0)]) (va_runS (As := [.int (Int32.ofNat n_p0), .int l1, .int l2]) (rest := []) ⟨hx, hb, hml, hown, htg⟩ (c_J7_rangeCheck_23922 l D cA _ fu (Int32.ofNat n_p0) l1 l2 o3 ho4) (cwS 3 htg (gS q_2_23 q_2_24 q_1_4 q_2_25) rfl rfl rfl hd_J7_rangeCheck_23922 ⟨Nat.le_of_ble_eq_true rfl, Nat.le_of_ble_eq_true rfl⟩) (xpS hN hK hP hD [] rfl (by decide)) rfl rfl hl.1 rfl (lv_room (Nat.le_of_ble_eq_true rfl)) dJ7_fill_bad5a_4 ⟨Nat.zero_le _, Nat.zero_le _⟩) hP hD hS hA [] [0] [0] rfl rfl (by decide) (by decide) rfl (by decide) (fun H locs hP hD hS => ?_)
  refine lv_iload_n hx hb dJ7_fill_bad5a_7 rfl (lv_at hl 1 rfl) ?_
  refine lv_istore (lv' := [(5, .int l1), (0, .ref p0a0), (1, .int l1), (2, .int l2), (3, .long l3)]) hx hb dJ7_fill_bad5a_8 hl (by decide) rfl (fun ls hl => ?_)
  exact B_10 fu _ _ _ _ hm hP hD hS (lv_sub hl [1, 3, 4, 0] rfl)
def m_X5_isKind (fu : Nat) (l0 : Int32) : Option (Int32 × Unit) :=
  (m_X5_isWithin fu l0 (0 : Int32) (5 : Int32)).bind fun o1 =>
  gd (bz o1.1) (some (o1.1, ()))
abbrev rm_X5_isKind : Room := ({ frames := 1, cells := 0, slots := 0, locals := 22 } : Room)
abbrev w0_X5_isKind (cA : Nat → ClassId)  : va_W := []
abbrev w1_X5_isKind (cA : Nat → ClassId)  (u : Unit) : va_W := []
theorem hd_X5_isKind : yX5_isKind.cls = RX5 ∧ yX5_isKind.cls ≠ "java/lang/invoke/MethodHandle" ∧ yX5_isKind.cls ≠ "java/lang/invoke/VarHandle" ∧ (parseMethodDescriptor yX5_isKind.desc).map (fun d => d.parameters.length) = some 1 := by decide +kernel
set_option maxHeartbeats 40000000 in
set_option maxRecDepth 100000 in
theorem c_X5_isKind (l : Launch) (D : va_G) (cA : Nat → ClassId) (sz : Nat) (fu : Nat) (l0 : Int32) (out : Int32 × Unit) (hm : m_X5_isKind fu l0 = some out) : MI l yX5_isKind (wU yX5_isKind cX5_isKind 1 ((Option.some Jvm.ClassFile.FieldType.boolean))) rm_X5_isKind D cA sz [.int l0] (w0_X5_isKind cA ) out (w1_X5_isKind cA ) := by
  refine Met.ofW (cc := cX5_isKind) (maxL := 1) (ret := (Option.some Jvm.ClassFile.FieldType.boolean)) (by decide) rfl ?_
  intro p e s m args below meth c s₁ B hml hv
  obtain ⟨hargs, hsz, hP, hK, hD0, hN⟩ := hv
  have hx := B.exec
  have hb := B.bytes
  have hr := B.returns
  have htg : ∀ w ∈ gw, w.before args s = true := fun w h => atoms_spec (ws := wU yX5_isKind cX5_isKind 1 ((Option.some Jvm.ClassFile.FieldType.boolean))) B.pre w (List.mem_cons_of_mem _ h)
  have hown : s.vm.findClass RX5 = some m.cls := findClass_of_methodNamed B.named
  have hlocks := B.notSynchronized
  subst hsz
  have hD := hD0.self (sz := s.heap.size)
  have hA : ∀ q : Nat, s.heap.size ≤ q → va_A (w0_X5_isKind cA ) s.heap.size q := fun q h => Or.inr h
  have hS : va_S (va_A (w0_X5_isKind cA ) s.heap.size) s.heap s.heap [] := va_S.rf
  generalize va_A (w0_X5_isKind cA ) s.heap.size = A at hA hD hS ⊢
  obtain ⟨Q, hQ⟩ : ∃ Q : State → Prop, Q = MQ below (va_Qi (fun (r : Int32) (u : Unit) => (r, u) = out) (pst0 D cA A (w1_X5_isKind cA )) A) args s 0 0 A := ⟨_, rfl⟩
  refine (?_ : W p l e rm_X5_isKind s m args below meth c s.heap [] 0 0 (MQ below (va_Qi (fun (r : Int32) (u : Unit) => (r, u) = out) (pst0 D cA A (w1_X5_isKind cA )) A) args s 0 0 A) (entryFrame m args 1))
  rw [← hQ]
  have hP : va_P D CL [] s.heap := hP
  have hD : va_D A [] := hD
  unfold m_X5_isKind at hm
  subst hargs
  have hl := lv_entry ([.int l0]) (n := 1) (Nat.le_of_ble_eq_true rfl)
  rw [lg_entry_eq]
  generalize (lg_sl ([.int l0]) ++ List.replicate (1 - (lg_sl ([.int l0])).length) Slot.unset).toArray = ls at hl ⊢
  have hl : lv_has ls 1 [(0, .int l0)] := hl
  refine lv_iload_n hx hb dX5_isKind_0 rfl (lv_at hl 0 rfl) ?_
  refine lv_iconst (v := (0 : Int32)) hx hb dX5_isKind_1 (by decide) ?_
  refine lv_iconst (v := (5 : Int32)) hx hb dX5_isKind_2 (by decide) ?_
  obtain ⟨o1, ho2, hm⟩ := bd_s hm
  refine xr_i (wr := []) (wn := []) (va_runS (As := [.int l0, .int (0 : Int32), .int (5 : Int32)]) (rest := []) ⟨hx, hb, hml, hown, htg⟩ (c_X5_isWithin l D cA _ fu l0 (0 : Int32) (5 : Int32) o1 ho2) (cwS 3 htg (gS q_2_7 q_2_8 q_1_1 q_2_9) rfl rfl rfl hd_X5_isWithin ⟨Nat.le_of_ble_eq_true rfl, Nat.le_of_ble_eq_true rfl⟩) (xpS hN hK hP hD [] rfl (by decide)) rfl rfl hl.1 rfl (lv_room (Nat.le_of_ble_eq_true rfl)) dX5_isKind_3 ⟨Nat.zero_le _, Nat.zero_le _⟩) hP hD hS hA [] [] [] rfl rfl (by decide) (by decide) rfl (by decide) (fun H locs hP hD hS => ?_)
  obtain ⟨hz3, hm⟩ := gd_s hm
  rw [hQ]
  exact W.zret (v := o1.1) hx hb hr (bz_nr hz3) (fun t9 ht hW => ⟨⟨o1.1, (), rfl, (Option.some.inj hm), by rw [ht]; exact hP, va_K.moved hW.alike hK, hD⟩, hS.F ht⟩) hS.2.2 dX5_isKind_6
def b_X5_isUnder_34 (fu : Nat) (s0 : Int32) : Option (Int32 × Unit) :=
  gd (bz s0) (some (s0, ()))
def b_X5_isUnder_29 (fu : Nat)  : Option (Int32 × Unit) :=
  b_X5_isUnder_34 fu (1 : Int32)
def b_X5_isUnder_33 (fu : Nat)  : Option (Int32 × Unit) :=
  b_X5_isUnder_34 fu (0 : Int32)
def b_X5_isUnder_19 (fu : Nat) (l0 : Int32) (l1 : Int32) : Option (Int32 × Unit) :=
  (if l0 = (4 : Int32) then
      (if l1 = (2 : Int32) then
        b_X5_isUnder_29 fu 
      else
        b_X5_isUnder_33 fu )
    else
      b_X5_isUnder_33 fu )
def m_X5_isUnder (fu : Nat) (l0 : Int32) (l1 : Int32) : Option (Int32 × Unit) :=
  (if l0 = l1 then
    b_X5_isUnder_29 fu 
  else
    (if l1 = 0 then
      b_X5_isUnder_29 fu 
    else
      (if l0 = (3 : Int32) then
        (if l1 = (1 : Int32) then
          b_X5_isUnder_29 fu 
        else
          b_X5_isUnder_19 fu l0 l1)
      else
        b_X5_isUnder_19 fu l0 l1)))
abbrev rm_X5_isUnder : Room := ({ frames := 0, cells := 0, slots := 0, locals := 0 } : Room)
abbrev w0_X5_isUnder (cA : Nat → ClassId)  : va_W := []
abbrev w1_X5_isUnder (cA : Nat → ClassId)  (u : Unit) : va_W := []
theorem hd_X5_isUnder : yX5_isUnder.cls = RX5 ∧ yX5_isUnder.cls ≠ "java/lang/invoke/MethodHandle" ∧ yX5_isUnder.cls ≠ "java/lang/invoke/VarHandle" ∧ (parseMethodDescriptor yX5_isUnder.desc).map (fun d => d.parameters.length) = some 2 := by decide +kernel
set_option maxHeartbeats 40000000 in
set_option maxRecDepth 100000 in
theorem c_X5_isUnder (l : Launch) (D : va_G) (cA : Nat → ClassId) (sz : Nat) (fu : Nat) (l0 : Int32) (l1 : Int32) (out : Int32 × Unit) (hm : m_X5_isUnder fu l0 l1 = some out) : MI l yX5_isUnder (wU yX5_isUnder cX5_isUnder 2 ((Option.some Jvm.ClassFile.FieldType.boolean))) rm_X5_isUnder D cA sz [.int l0, .int l1] (w0_X5_isUnder cA ) out (w1_X5_isUnder cA ) := by
  refine Met.ofW (cc := cX5_isUnder) (maxL := 2) (ret := (Option.some Jvm.ClassFile.FieldType.boolean)) (by decide) rfl ?_
  intro p e s m args below meth c s₁ B hml hv
  obtain ⟨hargs, hsz, hP, hK, hD0, hN⟩ := hv
  have hx := B.exec
  have hb := B.bytes
  have hr := B.returns
  have htg : ∀ w ∈ gw, w.before args s = true := fun w h => atoms_spec (ws := wU yX5_isUnder cX5_isUnder 2 ((Option.some Jvm.ClassFile.FieldType.boolean))) B.pre w (List.mem_cons_of_mem _ h)
  have hown : s.vm.findClass RX5 = some m.cls := findClass_of_methodNamed B.named
  have hlocks := B.notSynchronized
  subst hsz
  have hD := hD0.self (sz := s.heap.size)
  have hA : ∀ q : Nat, s.heap.size ≤ q → va_A (w0_X5_isUnder cA ) s.heap.size q := fun q h => Or.inr h
  have hS : va_S (va_A (w0_X5_isUnder cA ) s.heap.size) s.heap s.heap [] := va_S.rf
  generalize va_A (w0_X5_isUnder cA ) s.heap.size = A at hA hD hS ⊢
  obtain ⟨Q, hQ⟩ : ∃ Q : State → Prop, Q = MQ below (va_Qi (fun (r : Int32) (u : Unit) => (r, u) = out) (pst0 D cA A (w1_X5_isUnder cA )) A) args s 0 0 A := ⟨_, rfl⟩
  refine (?_ : W p l e rm_X5_isUnder s m args below meth c s.heap [] 0 0 (MQ below (va_Qi (fun (r : Int32) (u : Unit) => (r, u) = out) (pst0 D cA A (w1_X5_isUnder cA )) A) args s 0 0 A) (entryFrame m args 2))
  rw [← hQ]
  have hP : va_P D CL [] s.heap := hP
  have hD : va_D A [] := hD
  have B_34 : ∀ (s0 : Int32) (H : Heap) (locs : List Loc) (ls : Array Slot), b_X5_isUnder_34 fu s0 = some out → va_P D CL [] H → va_D A [] → va_S A s.heap H locs → lv_has ls 2 [] → W p l e rm_X5_isUnder s m args below meth c H locs 0 0 Q (F0 m 34 ls [.int s0]) := by
    intro  s0 H locs ls hm hP hD hS hl
    unfold b_X5_isUnder_34 at hm
    obtain ⟨hz1, hm⟩ := gd_s hm
    rw [hQ]
    exact W.zret (v := s0) hx hb hr (bz_nr hz1) (fun t9 ht hW => ⟨⟨s0, (), rfl, (Option.some.inj hm), by rw [ht]; exact hP, va_K.moved hW.alike hK, hD⟩, hS.F ht⟩) hS.2.2 dX5_isUnder_34
  have B_29 : ∀  (H : Heap) (locs : List Loc) (ls : Array Slot), b_X5_isUnder_29 fu  = some out → va_P D CL [] H → va_D A [] → va_S A s.heap H locs → lv_has ls 2 [] → W p l e rm_X5_isUnder s m args below meth c H locs 0 0 Q (F0 m 29 ls []) := by
    intro   H locs ls hm hP hD hS hl
    unfold b_X5_isUnder_29 at hm
    refine lv_iconst (v := (1 : Int32)) hx hb dX5_isUnder_29 (by decide) ?_
    refine lv_goto (tgt := 34) hx hb dX5_isUnder_30 (by decide) ?_
    exact B_34 _ _ _ _ hm hP hD hS (lv_sub hl [] rfl)
  have B_33 : ∀  (H : Heap) (locs : List Loc) (ls : Array Slot), b_X5_isUnder_33 fu  = some out → va_P D CL [] H → va_D A [] → va_S A s.heap H locs → lv_has ls 2 [] → W p l e rm_X5_isUnder s m args below meth c H locs 0 0 Q (F0 m 33 ls []) := by
    intro   H locs ls hm hP hD hS hl
    unfold b_X5_isUnder_33 at hm
    refine lv_iconst (v := (0 : Int32)) hx hb dX5_isUnder_33 (by decide) ?_
    exact B_34 _ _ _ _ hm hP hD hS (lv_sub hl [] rfl)
  have B_19 : ∀ (l0 : Int32) (l1 : Int32) (H : Heap) (locs : List Loc) (ls : Array Slot), b_X5_isUnder_19 fu l0 l1 = some out → va_P D CL [] H → va_D A [] → va_S A s.heap H locs → lv_has ls 2 [(0, .int l0), (1, .int l1)] → W p l e rm_X5_isUnder s m args below meth c H locs 0 0 Q (F0 m 19 ls []) := by
    intro  l0 l1 H locs ls hm hP hD hS hl
    unfold b_X5_isUnder_19 at hm
    refine lv_iload_n hx hb dX5_isUnder_19 rfl (lv_at hl 0 rfl) ?_
    refine lv_iconst (v := (4 : Int32)) hx hb dX5_isUnder_20 (by decide) ?_
    refine lv_icmp_ne (tgt := 33) hx hb dX5_isUnder_21 (by decide) (fun c2 => ?_) (fun c2 => ?_)
    · have hm := it_f c2 hm
      exact B_33  _ _ _ hm hP hD hS (lv_sub hl [] rfl)
    · have hm := it_t c2 hm
      refine lv_iload_n hx hb dX5_isUnder_24 rfl (lv_at hl 1 rfl) ?_
      refine lv_iconst (v := (2 : Int32)) hx hb dX5_isUnder_25 (by decide) ?_
      refine lv_icmp_ne (tgt := 33) hx hb dX5_isUnder_26 (by decide) (fun c3 => ?_) (fun c3 => ?_)
      · have hm := it_f c3 hm
        exact B_33  _ _ _ hm hP hD hS (lv_sub hl [] rfl)
      · have hm := it_t c3 hm
        exact B_29  _ _ _ hm hP hD hS (lv_sub hl [] rfl)
  unfold m_X5_isUnder at hm
  subst hargs
  have hl := lv_entry ([.int l0, .int l1]) (n := 2) (Nat.le_of_ble_eq_true rfl)
  rw [lg_entry_eq]
  generalize (lg_sl ([.int l0, .int l1]) ++ List.replicate (2 - (lg_sl ([.int l0, .int l1])).length) Slot.unset).toArray = ls at hl ⊢
  have hl : lv_has ls 2 [(0, .int l0), (1, .int l1)] := hl
  refine lv_iload_n hx hb dX5_isUnder_0 rfl (lv_at hl 0 rfl) ?_
  refine lv_iload_n hx hb dX5_isUnder_1 rfl (lv_at hl 1 rfl) ?_
  refine lv_icmp_eq (tgt := 29) hx hb dX5_isUnder_2 (by decide) (fun c4 => ?_) (fun c4 => ?_)
  · have hm := it_t c4 hm
    exact B_29  _ _ _ hm hP hD hS (lv_sub hl [] rfl)
  · have hm := it_f c4 hm
    refine lv_iload_n hx hb dX5_isUnder_5 rfl (lv_at hl 1 rfl) ?_
    refine lv_if_eq (tgt := 29) hx hb dX5_isUnder_6 (by decide) (fun c5 => ?_) (fun c5 => ?_)
    · have hm := it_t c5 hm
      exact B_29  _ _ _ hm hP hD hS (lv_sub hl [] rfl)
    · have hm := it_f c5 hm
      refine lv_iload_n hx hb dX5_isUnder_9 rfl (lv_at hl 0 rfl) ?_
      refine lv_iconst (v := (3 : Int32)) hx hb dX5_isUnder_10 (by decide) ?_
      refine lv_icmp_ne (tgt := 19) hx hb dX5_isUnder_11 (by decide) (fun c6 => ?_) (fun c6 => ?_)
      · have hm := it_f c6 hm
        exact B_19 _ _ _ _ _ hm hP hD hS (lv_sub hl [0, 1] rfl)
      · have hm := it_t c6 hm
        refine lv_iload_n hx hb dX5_isUnder_14 rfl (lv_at hl 1 rfl) ?_
        refine lv_iconst (v := (1 : Int32)) hx hb dX5_isUnder_15 (by decide) ?_
        refine lv_icmp_eq (tgt := 29) hx hb dX5_isUnder_16 (by decide) (fun c7 => ?_) (fun c7 => ?_)
        · have hm := it_t c7 hm
          exact B_29  _ _ _ hm hP hD hS (lv_sub hl [] rfl)
        · have hm := it_f c7 hm
          exact B_19 _ _ _ _ _ hm hP hD hS (lv_sub hl [0, 1] rfl)
def m_X5_depthBehind (fu : Nat) (l0 : Int32) (l1 : Int32) : Option (Int32 × Unit) :=
  some ((if (0 : Int32) < (if ((l0 + (1 : Int32)) - l1) < (40 : Int32) then ((l0 + (1 : Int32)) - l1) else (40 : Int32)) then (if ((l0 + (1 : Int32)) - l1) < (40 : Int32) then ((l0 + (1 : Int32)) - l1) else (40 : Int32)) else (0 : Int32)), ())
abbrev rm_X5_depthBehind : Room := ({ frames := 1, cells := 0, slots := 0, locals := 14 } : Room)
abbrev w0_X5_depthBehind (cA : Nat → ClassId)  : va_W := []
abbrev w1_X5_depthBehind (cA : Nat → ClassId)  (u : Unit) : va_W := []
theorem hd_X5_depthBehind : yX5_depthBehind.cls = RX5 ∧ yX5_depthBehind.cls ≠ "java/lang/invoke/MethodHandle" ∧ yX5_depthBehind.cls ≠ "java/lang/invoke/VarHandle" ∧ (parseMethodDescriptor yX5_depthBehind.desc).map (fun d => d.parameters.length) = some 2 := by decide +kernel
set_option maxHeartbeats 40000000 in
set_option maxRecDepth 100000 in
theorem c_X5_depthBehind (l : Launch) (D : va_G) (cA : Nat → ClassId) (sz : Nat) (fu : Nat) (l0 : Int32) (l1 : Int32) (out : Int32 × Unit) (hm : m_X5_depthBehind fu l0 l1 = some out) : MI l yX5_depthBehind (wU yX5_depthBehind cX5_depthBehind 2 ((Option.some Jvm.ClassFile.FieldType.int))) rm_X5_depthBehind D cA sz [.int l0, .int l1] (w0_X5_depthBehind cA ) out (w1_X5_depthBehind cA ) := by
  refine Met.ofW (cc := cX5_depthBehind) (maxL := 2) (ret := (Option.some Jvm.ClassFile.FieldType.int)) (by decide) rfl ?_
  intro p e s m args below meth c s₁ B hml hv
  obtain ⟨hargs, hsz, hP, hK, hD0, hN⟩ := hv
  have hx := B.exec
  have hb := B.bytes
  have hr := B.returns
  have htg : ∀ w ∈ gw, w.before args s = true := fun w h => atoms_spec (ws := wU yX5_depthBehind cX5_depthBehind 2 ((Option.some Jvm.ClassFile.FieldType.int))) B.pre w (List.mem_cons_of_mem _ h)
  have hown : s.vm.findClass RX5 = some m.cls := findClass_of_methodNamed B.named
  have hlocks := B.notSynchronized
  subst hsz
  have hD := hD0.self (sz := s.heap.size)
  have hA : ∀ q : Nat, s.heap.size ≤ q → va_A (w0_X5_depthBehind cA ) s.heap.size q := fun q h => Or.inr h
  have hS : va_S (va_A (w0_X5_depthBehind cA ) s.heap.size) s.heap s.heap [] := va_S.rf
  generalize va_A (w0_X5_depthBehind cA ) s.heap.size = A at hA hD hS ⊢
  obtain ⟨Q, hQ⟩ : ∃ Q : State → Prop, Q = MQ below (va_Qi (fun (r : Int32) (u : Unit) => (r, u) = out) (pst0 D cA A (w1_X5_depthBehind cA )) A) args s 0 0 A := ⟨_, rfl⟩
  refine (?_ : W p l e rm_X5_depthBehind s m args below meth c s.heap [] 0 0 (MQ below (va_Qi (fun (r : Int32) (u : Unit) => (r, u) = out) (pst0 D cA A (w1_X5_depthBehind cA )) A) args s 0 0 A) (entryFrame m args 2))
  rw [← hQ]
  have hP : va_P D CL [] s.heap := hP
  have hD : va_D A [] := hD
  unfold m_X5_depthBehind at hm
  subst hargs
  have hl := lv_entry ([.int l0, .int l1]) (n := 2) (Nat.le_of_ble_eq_true rfl)
  rw [lg_entry_eq]
  generalize (lg_sl ([.int l0, .int l1]) ++ List.replicate (2 - (lg_sl ([.int l0, .int l1])).length) Slot.unset).toArray = ls at hl ⊢
  have hl : lv_has ls 2 [(0, .int l0), (1, .int l1)] := hl
  refine lv_iconst (v := (0 : Int32)) hx hb dX5_depthBehind_0 (by decide) ?_
  refine lv_bipush (v := (40 : Int32)) hx hb dX5_depthBehind_1 (by decide) ?_
  refine lv_iload_n hx hb dX5_depthBehind_3 rfl (lv_at hl 0 rfl) ?_
  refine lv_iconst (v := (1 : Int32)) hx hb dX5_depthBehind_4 (by decide) ?_
  refine lv_iadd hx hb dX5_depthBehind_5 ?_
  refine lv_iload_n hx hb dX5_depthBehind_6 rfl (lv_at hl 1 rfl) ?_
  refine lv_isub hx hb dX5_depthBehind_7 ?_
  refine va_mmin hx hb (hml.trans hl.1.symm) hown (htg _ q_3_155) (htg _ q_3_156) (htg _ q_1_14) (htg _ q_3_157) (Nat.le_of_ble_eq_true rfl) (Nat.le_of_ble_eq_true rfl) (Nat.zero_le _) (Nat.zero_le _) dX5_depthBehind_8 ?_
  refine va_mmax hx hb (hml.trans hl.1.symm) hown (htg _ q_3_158) (htg _ q_3_159) (htg _ q_1_14) (htg _ q_3_160) (Nat.le_of_ble_eq_true rfl) (Nat.le_of_ble_eq_true rfl) (Nat.zero_le _) (Nat.zero_le _) dX5_depthBehind_11 ?_
  rw [hQ]
  exact W.iret (v := (if (0 : Int32) < (if ((l0 + (1 : Int32)) - l1) < (40 : Int32) then ((l0 + (1 : Int32)) - l1) else (40 : Int32)) then (if ((l0 + (1 : Int32)) - l1) < (40 : Int32) then ((l0 + (1 : Int32)) - l1) else (40 : Int32)) else (0 : Int32))) hx hb hr (fun t9 ht hW => ⟨⟨(if (0 : Int32) < (if ((l0 + (1 : Int32)) - l1) < (40 : Int32) then ((l0 + (1 : Int32)) - l1) else (40 : Int32)) then (if ((l0 + (1 : Int32)) - l1) < (40 : Int32) then ((l0 + (1 : Int32)) - l1) else (40 : Int32)) else (0 : Int32)), (), rfl, (Option.some.inj hm), by rw [ht]; exact hP, va_K.moved hW.alike hK, hD⟩, hS.F ht⟩) hS.2.2 dX5_depthBehind_14
def m_X5_dayBehind (fu : Nat) (l0 : Int32) : Option (Int32 × Unit) :=
  some ((if (l0 + (1 : Int32)) < (9999 : Int32) then (l0 + (1 : Int32)) else (9999 : Int32)), ())
abbrev rm_X5_dayBehind : Room := ({ frames := 1, cells := 0, slots := 0, locals := 13 } : Room)
abbrev w0_X5_dayBehind (cA : Nat → ClassId)  : va_W := []
abbrev w1_X5_dayBehind (cA : Nat → ClassId)  (u : Unit) : va_W := []
theorem hd_X5_dayBehind : yX5_dayBehind.cls = RX5 ∧ yX5_dayBehind.cls ≠ "java/lang/invoke/MethodHandle" ∧ yX5_dayBehind.cls ≠ "java/lang/invoke/VarHandle" ∧ (parseMethodDescriptor yX5_dayBehind.desc).map (fun d => d.parameters.length) = some 1 := by decide +kernel
set_option maxHeartbeats 40000000 in
set_option maxRecDepth 100000 in
theorem c_X5_dayBehind (l : Launch) (D : va_G) (cA : Nat → ClassId) (sz : Nat) (fu : Nat) (l0 : Int32) (out : Int32 × Unit) (hm : m_X5_dayBehind fu l0 = some out) : MI l yX5_dayBehind (wU yX5_dayBehind cX5_dayBehind 1 ((Option.some Jvm.ClassFile.FieldType.int))) rm_X5_dayBehind D cA sz [.int l0] (w0_X5_dayBehind cA ) out (w1_X5_dayBehind cA ) := by
  refine Met.ofW (cc := cX5_dayBehind) (maxL := 1) (ret := (Option.some Jvm.ClassFile.FieldType.int)) (by decide) rfl ?_
  intro p e s m args below meth c s₁ B hml hv
  obtain ⟨hargs, hsz, hP, hK, hD0, hN⟩ := hv
  have hx := B.exec
  have hb := B.bytes
  have hr := B.returns
  have htg : ∀ w ∈ gw, w.before args s = true := fun w h => atoms_spec (ws := wU yX5_dayBehind cX5_dayBehind 1 ((Option.some Jvm.ClassFile.FieldType.int))) B.pre w (List.mem_cons_of_mem _ h)
  have hown : s.vm.findClass RX5 = some m.cls := findClass_of_methodNamed B.named
  have hlocks := B.notSynchronized
  subst hsz
  have hD := hD0.self (sz := s.heap.size)
  have hA : ∀ q : Nat, s.heap.size ≤ q → va_A (w0_X5_dayBehind cA ) s.heap.size q := fun q h => Or.inr h
  have hS : va_S (va_A (w0_X5_dayBehind cA ) s.heap.size) s.heap s.heap [] := va_S.rf
  generalize va_A (w0_X5_dayBehind cA ) s.heap.size = A at hA hD hS ⊢
  obtain ⟨Q, hQ⟩ : ∃ Q : State → Prop, Q = MQ below (va_Qi (fun (r : Int32) (u : Unit) => (r, u) = out) (pst0 D cA A (w1_X5_dayBehind cA )) A) args s 0 0 A := ⟨_, rfl⟩
  refine (?_ : W p l e rm_X5_dayBehind s m args below meth c s.heap [] 0 0 (MQ below (va_Qi (fun (r : Int32) (u : Unit) => (r, u) = out) (pst0 D cA A (w1_X5_dayBehind cA )) A) args s 0 0 A) (entryFrame m args 1))
  rw [← hQ]
  have hP : va_P D CL [] s.heap := hP
  have hD : va_D A [] := hD
  unfold m_X5_dayBehind at hm
  subst hargs
  have hl := lv_entry ([.int l0]) (n := 1) (Nat.le_of_ble_eq_true rfl)
  rw [lg_entry_eq]
  generalize (lg_sl ([.int l0]) ++ List.replicate (1 - (lg_sl ([.int l0])).length) Slot.unset).toArray = ls at hl ⊢
  have hl : lv_has ls 1 [(0, .int l0)] := hl
  refine lv_sipush (v := (9999 : Int32)) hx hb dX5_dayBehind_0 (by decide) ?_
  refine lv_iload_n hx hb dX5_dayBehind_3 rfl (lv_at hl 0 rfl) ?_
  refine lv_iconst (v := (1 : Int32)) hx hb dX5_dayBehind_4 (by decide) ?_
  refine lv_iadd hx hb dX5_dayBehind_5 ?_
  refine va_mmin hx hb (hml.trans hl.1.symm) hown (htg _ q_3_155) (htg _ q_3_156) (htg _ q_1_14) (htg _ q_3_157) (Nat.le_of_ble_eq_true rfl) (Nat.le_of_ble_eq_true rfl) (Nat.zero_le _) (Nat.zero_le _) dX5_dayBehind_6 ?_
  rw [hQ]
  exact W.iret (v := (if (l0 + (1 : Int32)) < (9999 : Int32) then (l0 + (1 : Int32)) else (9999 : Int32))) hx hb hr (fun t9 ht hW => ⟨⟨(if (l0 + (1 : Int32)) < (9999 : Int32) then (l0 + (1 : Int32)) else (9999 : Int32)), (), rfl, (Option.some.inj hm), by rw [ht]; exact hP, va_K.moved hW.alike hK, hD⟩, hS.F ht⟩) hS.2.2 dX5_dayBehind_9
def m_J13_bitCount_95d88 (fu : Nat) (l0 : Int64) : Option (Int32 × Unit) :=
  (some (l0 - (((l0.toUInt64 >>> ((1 : Int32).toInt64.toUInt64 &&& Int64.toUInt64 63)).toInt64) &&& (6148914691236517205 : Int64)))).bind fun v1 =>
  (some ((v1 &&& (3689348814741910323 : Int64)) + (((v1.toUInt64 >>> ((2 : Int32).toInt64.toUInt64 &&& Int64.toUInt64 63)).toInt64) &&& (3689348814741910323 : Int64)))).bind fun v3 =>
  (some ((v3 + ((v3.toUInt64 >>> ((4 : Int32).toInt64.toUInt64 &&& Int64.toUInt64 63)).toInt64)) &&& (1085102592571150095 : Int64))).bind fun v5 =>
  (some (v5 + ((v5.toUInt64 >>> ((8 : Int32).toInt64.toUInt64 &&& Int64.toUInt64 63)).toInt64))).bind fun v7 =>
  (some (v7 + ((v7.toUInt64 >>> ((16 : Int32).toInt64.toUInt64 &&& Int64.toUInt64 63)).toInt64))).bind fun v9 =>
  (some (v9 + ((v9.toUInt64 >>> ((32 : Int32).toInt64.toUInt64 &&& Int64.toUInt64 63)).toInt64))).bind fun v11 =>
  some ((v11.toInt32 &&& (127 : Int32)), ())
abbrev rm_J13_bitCount_95d88 : Room := ({ frames := 0, cells := 0, slots := 0, locals := 0 } : Room)
abbrev w0_J13_bitCount_95d88 (cA : Nat → ClassId)  : va_W := []
abbrev w1_J13_bitCount_95d88 (cA : Nat → ClassId)  (u : Unit) : va_W := []
theorem hd_J13_bitCount_95d88 : yJ13_bitCount_95d88.cls = RJ13 ∧ yJ13_bitCount_95d88.cls ≠ "java/lang/invoke/MethodHandle" ∧ yJ13_bitCount_95d88.cls ≠ "java/lang/invoke/VarHandle" ∧ (parseMethodDescriptor yJ13_bitCount_95d88.desc).map (fun d => d.parameters.length) = some 1 := by decide +kernel
set_option maxHeartbeats 40000000 in
set_option maxRecDepth 100000 in
theorem c_J13_bitCount_95d88 (l : Launch) (D : va_G) (cA : Nat → ClassId) (sz : Nat) (fu : Nat) (l0 : Int64) (out : Int32 × Unit) (hm : m_J13_bitCount_95d88 fu l0 = some out) : MI l yJ13_bitCount_95d88 (wU yJ13_bitCount_95d88 cJ13_bitCount_95d88 2 ((Option.some Jvm.ClassFile.FieldType.int))) rm_J13_bitCount_95d88 D cA sz [.long l0] (w0_J13_bitCount_95d88 cA ) out (w1_J13_bitCount_95d88 cA ) := by
  refine Met.ofW (cc := cJ13_bitCount_95d88) (maxL := 2) (ret := (Option.some Jvm.ClassFile.FieldType.int)) (by decide) rfl ?_
  intro p e s m args below meth c s₁ B hml hv
  obtain ⟨hargs, hsz, hP, hK, hD0, hN⟩ := hv
  have hx := B.exec
  have hb := B.bytes
  have hr := B.returns
  have htg : ∀ w ∈ gw, w.before args s = true := fun w h => atoms_spec (ws := wU yJ13_bitCount_95d88 cJ13_bitCount_95d88 2 ((Option.some Jvm.ClassFile.FieldType.int))) B.pre w (List.mem_cons_of_mem _ h)
  have hown : s.vm.findClass RJ13 = some m.cls := findClass_of_methodNamed B.named
  have hlocks := B.notSynchronized
  subst hsz
  have hD := hD0.self (sz := s.heap.size)
  have hA : ∀ q : Nat, s.heap.size ≤ q → va_A (w0_J13_bitCount_95d88 cA ) s.heap.size q := fun q h => Or.inr h
  have hS : va_S (va_A (w0_J13_bitCount_95d88 cA ) s.heap.size) s.heap s.heap [] := va_S.rf
  generalize va_A (w0_J13_bitCount_95d88 cA ) s.heap.size = A at hA hD hS ⊢
  obtain ⟨Q, hQ⟩ : ∃ Q : State → Prop, Q = MQ below (va_Qi (fun (r : Int32) (u : Unit) => (r, u) = out) (pst0 D cA A (w1_J13_bitCount_95d88 cA )) A) args s 0 0 A := ⟨_, rfl⟩
  refine (?_ : W p l e rm_J13_bitCount_95d88 s m args below meth c s.heap [] 0 0 (MQ below (va_Qi (fun (r : Int32) (u : Unit) => (r, u) = out) (pst0 D cA A (w1_J13_bitCount_95d88 cA )) A) args s 0 0 A) (entryFrame m args 2))
  rw [← hQ]
  have hP : va_P D CL [] s.heap := hP
  have hD : va_D A [] := hD
  unfold m_J13_bitCount_95d88 at hm
  subst hargs
  have hl := lv_entry ([.long l0]) (n := 2) (Nat.le_of_ble_eq_true rfl)
  rw [lg_entry_eq]
  generalize (lg_sl ([.long l0]) ++ List.replicate (2 - (lg_sl ([.long l0])).length) Slot.unset).toArray = ls at hl ⊢
  have hl : lv_has ls 2 [(0, .long l0)] := hl
  refine lv_lload_n hx hb dJ13_bitCount_95d88_0 rfl (lv_at hl 0 rfl) ?_
  refine lv_lload_n hx hb dJ13_bitCount_95d88_1 rfl (lv_at hl 0 rfl) ?_
  refine lv_iconst (v := (1 : Int32)) hx hb dJ13_bitCount_95d88_2 (by decide) ?_
  refine lv_lushr hx hb dJ13_bitCount_95d88_3 rfl ?_
  refine lv_ldc2 (v := (6148914691236517205 : Int64)) hx hb hown (htg _ q_3_182) dJ13_bitCount_95d88_4 ?_
  refine lv_land hx hb dJ13_bitCount_95d88_7 ?_
  refine lv_lsub hx hb dJ13_bitCount_95d88_8 ?_
  obtain ⟨v1, hv2, hm⟩ := bd_s hm
  rw [Option.some.inj hv2]
  refine lv_lstore_n (lv' := [(0, .long v1)]) hx hb dJ13_bitCount_95d88_9 rfl hl (by decide) rfl (fun ls hl => ?_)
  refine lv_lload_n hx hb dJ13_bitCount_95d88_10 rfl (lv_at hl 0 rfl) ?_
  refine lv_ldc2 (v := (3689348814741910323 : Int64)) hx hb hown (htg _ q_3_183) dJ13_bitCount_95d88_11 ?_
  refine lv_land hx hb dJ13_bitCount_95d88_14 ?_
  refine lv_lload_n hx hb dJ13_bitCount_95d88_15 rfl (lv_at hl 0 rfl) ?_
  refine lv_iconst (v := (2 : Int32)) hx hb dJ13_bitCount_95d88_16 (by decide) ?_
  refine lv_lushr hx hb dJ13_bitCount_95d88_17 rfl ?_
  refine lv_ldc2 (v := (3689348814741910323 : Int64)) hx hb hown (htg _ q_3_183) dJ13_bitCount_95d88_18 ?_
  refine lv_land hx hb dJ13_bitCount_95d88_21 ?_
  refine lv_ladd hx hb dJ13_bitCount_95d88_22 ?_
  obtain ⟨v3, hv4, hm⟩ := bd_s hm
  rw [Option.some.inj hv4]
  refine lv_lstore_n (lv' := [(0, .long v3)]) hx hb dJ13_bitCount_95d88_23 rfl hl (by decide) rfl (fun ls hl => ?_)
  refine lv_lload_n hx hb dJ13_bitCount_95d88_24 rfl (lv_at hl 0 rfl) ?_
  refine lv_lload_n hx hb dJ13_bitCount_95d88_25 rfl (lv_at hl 0 rfl) ?_
  refine lv_iconst (v := (4 : Int32)) hx hb dJ13_bitCount_95d88_26 (by decide) ?_
  refine lv_lushr hx hb dJ13_bitCount_95d88_27 rfl ?_
  refine lv_ladd hx hb dJ13_bitCount_95d88_28 ?_
  refine lv_ldc2 (v := (1085102592571150095 : Int64)) hx hb hown (htg _ q_3_184) dJ13_bitCount_95d88_29 ?_
  refine lv_land hx hb dJ13_bitCount_95d88_32 ?_
  obtain ⟨v5, hv6, hm⟩ := bd_s hm
  rw [Option.some.inj hv6]
  refine lv_lstore_n (lv' := [(0, .long v5)]) hx hb dJ13_bitCount_95d88_33 rfl hl (by decide) rfl (fun ls hl => ?_)
  refine lv_lload_n hx hb dJ13_bitCount_95d88_34 rfl (lv_at hl 0 rfl) ?_
  refine lv_lload_n hx hb dJ13_bitCount_95d88_35 rfl (lv_at hl 0 rfl) ?_
  refine lv_bipush (v := (8 : Int32)) hx hb dJ13_bitCount_95d88_36 (by decide) ?_
  refine lv_lushr hx hb dJ13_bitCount_95d88_38 rfl ?_
  refine lv_ladd hx hb dJ13_bitCount_95d88_39 ?_
  obtain ⟨v7, hv8, hm⟩ := bd_s hm
  rw [Option.some.inj hv8]
  refine lv_lstore_n (lv' := [(0, .long v7)]) hx hb dJ13_bitCount_95d88_40 rfl hl (by decide) rfl (fun ls hl => ?_)
  refine lv_lload_n hx hb dJ13_bitCount_95d88_41 rfl (lv_at hl 0 rfl) ?_
  refine lv_lload_n hx hb dJ13_bitCount_95d88_42 rfl (lv_at hl 0 rfl) ?_
  refine lv_bipush (v := (16 : Int32)) hx hb dJ13_bitCount_95d88_43 (by decide) ?_
  refine lv_lushr hx hb dJ13_bitCount_95d88_45 rfl ?_
  refine lv_ladd hx hb dJ13_bitCount_95d88_46 ?_
  obtain ⟨v9, hv10, hm⟩ := bd_s hm
  rw [Option.some.inj hv10]
  refine lv_lstore_n (lv' := [(0, .long v9)]) hx hb dJ13_bitCount_95d88_47 rfl hl (by decide) rfl (fun ls hl => ?_)
  refine lv_lload_n hx hb dJ13_bitCount_95d88_48 rfl (lv_at hl 0 rfl) ?_
  refine lv_lload_n hx hb dJ13_bitCount_95d88_49 rfl (lv_at hl 0 rfl) ?_
  refine lv_bipush (v := (32 : Int32)) hx hb dJ13_bitCount_95d88_50 (by decide) ?_
  refine lv_lushr hx hb dJ13_bitCount_95d88_52 rfl ?_
  refine lv_ladd hx hb dJ13_bitCount_95d88_53 ?_
  obtain ⟨v11, hv12, hm⟩ := bd_s hm
  rw [Option.some.inj hv12]
  refine lv_lstore_n (lv' := [(0, .long v11)]) hx hb dJ13_bitCount_95d88_54 rfl hl (by decide) rfl (fun ls hl => ?_)
  refine lv_lload_n hx hb dJ13_bitCount_95d88_55 rfl (lv_at hl 0 rfl) ?_
  refine lv_l2i hx hb dJ13_bitCount_95d88_56 rfl ?_
  refine lv_bipush (v := (127 : Int32)) hx hb dJ13_bitCount_95d88_57 (by decide) ?_
  refine lv_iand hx hb dJ13_bitCount_95d88_59 ?_
  rw [hQ]
  exact W.iret (v := (v11.toInt32 &&& (127 : Int32))) hx hb hr (fun t9 ht hW => ⟨⟨(v11.toInt32 &&& (127 : Int32)), (), rfl, (Option.some.inj hm), by rw [ht]; exact hP, va_K.moved hW.alike hK, hD⟩, hS.F ht⟩) hS.2.2 dJ13_bitCount_95d88_60
def b_X5_isIn_15 (fu : Nat) (s0 : Int32) : Option (Int32 × Unit) :=
  gd (bz s0) (some (s0, ()))
def m_X5_isIn (fu : Nat) (l0 : Int64) (l2 : Int32) : Option (Int32 × Unit) :=
  (if (lg_cmp (((l0.toUInt64 >>> (l2.toInt64.toUInt64 &&& Int64.toUInt64 63)).toInt64) &&& (1 : Int64)) (1 : Int64)) = 0 then
    b_X5_isIn_15 fu (1 : Int32)
  else
    b_X5_isIn_15 fu (0 : Int32))
abbrev rm_X5_isIn : Room := ({ frames := 0, cells := 0, slots := 0, locals := 0 } : Room)
abbrev w0_X5_isIn (cA : Nat → ClassId)  : va_W := []
abbrev w1_X5_isIn (cA : Nat → ClassId)  (u : Unit) : va_W := []
theorem hd_X5_isIn : yX5_isIn.cls = RX5 ∧ yX5_isIn.cls ≠ "java/lang/invoke/MethodHandle" ∧ yX5_isIn.cls ≠ "java/lang/invoke/VarHandle" ∧ (parseMethodDescriptor yX5_isIn.desc).map (fun d => d.parameters.length) = some 2 := by decide +kernel
set_option maxHeartbeats 40000000 in
set_option maxRecDepth 100000 in
theorem c_X5_isIn (l : Launch) (D : va_G) (cA : Nat → ClassId) (sz : Nat) (fu : Nat) (l0 : Int64) (l2 : Int32) (out : Int32 × Unit) (hm : m_X5_isIn fu l0 l2 = some out) : MI l yX5_isIn (wU yX5_isIn cX5_isIn 3 ((Option.some Jvm.ClassFile.FieldType.boolean))) rm_X5_isIn D cA sz [.long l0, .int l2] (w0_X5_isIn cA ) out (w1_X5_isIn cA ) := by
  refine Met.ofW (cc := cX5_isIn) (maxL := 3) (ret := (Option.some Jvm.ClassFile.FieldType.boolean)) (by decide) rfl ?_
  intro p e s m args below meth c s₁ B hml hv
  obtain ⟨hargs, hsz, hP, hK, hD0, hN⟩ := hv
  have hx := B.exec
  have hb := B.bytes
  have hr := B.returns
  have htg : ∀ w ∈ gw, w.before args s = true := fun w h => atoms_spec (ws := wU yX5_isIn cX5_isIn 3 ((Option.some Jvm.ClassFile.FieldType.boolean))) B.pre w (List.mem_cons_of_mem _ h)
  have hown : s.vm.findClass RX5 = some m.cls := findClass_of_methodNamed B.named
  have hlocks := B.notSynchronized
  subst hsz
  have hD := hD0.self (sz := s.heap.size)
  have hA : ∀ q : Nat, s.heap.size ≤ q → va_A (w0_X5_isIn cA ) s.heap.size q := fun q h => Or.inr h
  have hS : va_S (va_A (w0_X5_isIn cA ) s.heap.size) s.heap s.heap [] := va_S.rf
  generalize va_A (w0_X5_isIn cA ) s.heap.size = A at hA hD hS ⊢
  obtain ⟨Q, hQ⟩ : ∃ Q : State → Prop, Q = MQ below (va_Qi (fun (r : Int32) (u : Unit) => (r, u) = out) (pst0 D cA A (w1_X5_isIn cA )) A) args s 0 0 A := ⟨_, rfl⟩
  refine (?_ : W p l e rm_X5_isIn s m args below meth c s.heap [] 0 0 (MQ below (va_Qi (fun (r : Int32) (u : Unit) => (r, u) = out) (pst0 D cA A (w1_X5_isIn cA )) A) args s 0 0 A) (entryFrame m args 3))
  rw [← hQ]
  have hP : va_P D CL [] s.heap := hP
  have hD : va_D A [] := hD
  have B_15 : ∀ (s0 : Int32) (H : Heap) (locs : List Loc) (ls : Array Slot), b_X5_isIn_15 fu s0 = some out → va_P D CL [] H → va_D A [] → va_S A s.heap H locs → lv_has ls 3 [] → W p l e rm_X5_isIn s m args below meth c H locs 0 0 Q (F0 m 15 ls [.int s0]) := by
    intro  s0 H locs ls hm hP hD hS hl
    unfold b_X5_isIn_15 at hm
    obtain ⟨hz1, hm⟩ := gd_s hm
    rw [hQ]
    exact W.zret (v := s0) hx hb hr (bz_nr hz1) (fun t9 ht hW => ⟨⟨s0, (), rfl, (Option.some.inj hm), by rw [ht]; exact hP, va_K.moved hW.alike hK, hD⟩, hS.F ht⟩) hS.2.2 dX5_isIn_15
  unfold m_X5_isIn at hm
  subst hargs
  have hl := lv_entry ([.long l0, .int l2]) (n := 3) (Nat.le_of_ble_eq_true rfl)
  rw [lg_entry_eq]
  generalize (lg_sl ([.long l0, .int l2]) ++ List.replicate (3 - (lg_sl ([.long l0, .int l2])).length) Slot.unset).toArray = ls at hl ⊢
  have hl : lv_has ls 3 [(0, .long l0), (2, .int l2)] := hl
  refine lv_lload_n hx hb dX5_isIn_0 rfl (lv_at hl 0 rfl) ?_
  refine lv_iload_n hx hb dX5_isIn_1 rfl (lv_at hl 1 rfl) ?_
  refine lv_lushr hx hb dX5_isIn_2 rfl ?_
  refine lv_lconst (v := (1 : Int64)) hx hb dX5_isIn_3 (by decide) ?_
  refine lv_land hx hb dX5_isIn_4 ?_
  refine lv_lconst (v := (1 : Int64)) hx hb dX5_isIn_5 (by decide) ?_
  refine W.lcmp hx hb dX5_isIn_6 ?_
  refine lv_if_ne (tgt := 14) hx hb dX5_isIn_7 (by decide) (fun c2 => ?_) (fun c2 => ?_)
  · have hm := it_f c2 hm
    refine lv_iconst (v := (0 : Int32)) hx hb dX5_isIn_14 (by decide) ?_
    exact B_15 _ _ _ _ hm hP hD hS (lv_sub hl [] rfl)
  · have hm := it_t c2 hm
    refine lv_iconst (v := (1 : Int32)) hx hb dX5_isIn_10 (by decide) ?_
    refine lv_goto (tgt := 15) hx hb dX5_isIn_11 (by decide) ?_
    exact B_15 _ _ _ _ hm hP hD hS (lv_sub hl [] rfl)
def b_X5_tellOf_30 (fu : Nat) (k_11 : (Int64 × Int32 × Int32) → Option (Int32 × Unit)) (l0 : Int64) (l2 : Int32) (l3 : Int32) (s0 : Int32) : Option (Int32 × Unit) :=
  (m_X5_isIn fu l0 s0).bind fun o1 =>
    (if o1.1 = 0 then
      k_11 (l0, l2, (l3 + (1 : Int32)))
    else
      some (s0, ()))
def b_X5_tellOf_11 (fu : Nat) (k_11 : (Int64 × Int32 × Int32) → Option (Int32 × Unit)) (x : Int64 × Int32 × Int32) : Option (Int32 × Unit) :=
  (if (40 : Int32) < x.2.2 then
        some ((-1 : Int32), ())
      else
        (if x.2.1 = (1 : Int32) then
          b_X5_tellOf_30 fu k_11 x.1 x.2.1 x.2.2 x.2.2
        else
          b_X5_tellOf_30 fu k_11 x.1 x.2.1 x.2.2 ((40 : Int32) - x.2.2)))
def m_X5_tellOf (fu : Nat) (l0 : Int64) (l2 : Int32) : Option (Int32 × Unit) :=
  (if l2 = 0 then
    (m_J13_bitCount_95d88 fu l0).bind fun o7 =>
    some (o7.1, ())
  else
    lfix (b_X5_tellOf_11 fu) fu (l0, l2, (0 : Int32)))
abbrev rm_X5_tellOf : Room := ({ frames := 1, cells := 0, slots := 0, locals := 22 } : Room)
abbrev w0_X5_tellOf (cA : Nat → ClassId)  : va_W := []
abbrev w1_X5_tellOf (cA : Nat → ClassId)  (u : Unit) : va_W := []
theorem hd_X5_tellOf : yX5_tellOf.cls = RX5 ∧ yX5_tellOf.cls ≠ "java/lang/invoke/MethodHandle" ∧ yX5_tellOf.cls ≠ "java/lang/invoke/VarHandle" ∧ (parseMethodDescriptor yX5_tellOf.desc).map (fun d => d.parameters.length) = some 2 := by decide +kernel
set_option maxHeartbeats 40000000 in
set_option maxRecDepth 100000 in
theorem c_X5_tellOf (l : Launch) (D : va_G) (cA : Nat → ClassId) (sz : Nat) (fu : Nat) (l0 : Int64) (l2 : Int32) (out : Int32 × Unit) (hm : m_X5_tellOf fu l0 l2 = some out) : MI l yX5_tellOf (wU yX5_tellOf cX5_tellOf 5 ((Option.some Jvm.ClassFile.FieldType.int))) rm_X5_tellOf D cA sz [.long l0, .int l2] (w0_X5_tellOf cA ) out (w1_X5_tellOf cA ) := by
  refine Met.ofW (cc := cX5_tellOf) (maxL := 5) (ret := (Option.some Jvm.ClassFile.FieldType.int)) (by decide) rfl ?_
  intro p e s m args below meth c s₁ B hml hv
  obtain ⟨hargs, hsz, hP, hK, hD0, hN⟩ := hv
  have hx := B.exec
  have hb := B.bytes
  have hr := B.returns
  have htg : ∀ w ∈ gw, w.before args s = true := fun w h => atoms_spec (ws := wU yX5_tellOf cX5_tellOf 5 ((Option.some Jvm.ClassFile.FieldType.int))) B.pre w (List.mem_cons_of_mem _ h)
  have hown : s.vm.findClass RX5 = some m.cls := findClass_of_methodNamed B.named
  have hlocks := B.notSynchronized
  subst hsz
  have hD := hD0.self (sz := s.heap.size)
  have hA : ∀ q : Nat, s.heap.size ≤ q → va_A (w0_X5_tellOf cA ) s.heap.size q := fun q h => Or.inr h
  have hS : va_S (va_A (w0_X5_tellOf cA ) s.heap.size) s.heap s.heap [] := va_S.rf
  generalize va_A (w0_X5_tellOf cA ) s.heap.size = A at hA hD hS ⊢
  obtain ⟨Q, hQ⟩ : ∃ Q : State → Prop, Q = MQ below (va_Qi (fun (r : Int32) (u : Unit) => (r, u) = out) (pst0 D cA A (w1_X5_tellOf cA )) A) args s 0 0 A := ⟨_, rfl⟩
  refine (?_ : W p l e rm_X5_tellOf s m args below meth c s.heap [] 0 0 (MQ below (va_Qi (fun (r : Int32) (u : Unit) => (r, u) = out) (pst0 D cA A (w1_X5_tellOf cA )) A) args s 0 0 A) (entryFrame m args 5))
  rw [← hQ]
  have hP : va_P D CL [] s.heap := hP
  have hD : va_D A [] := hD
  have B_30 : ∀ (k_11 : (Int64 × Int32 × Int32) → Option (Int32 × Unit)) (HK_11 : ∀ (x : Int64 × Int32 × Int32) (H : Heap) (locs : List Loc) (ls : Array Slot), k_11 x = some out → va_P D CL [] H → va_D A [] → va_S A s.heap H locs → lv_has ls 5 [(0, .long x.1), (2, .int x.2.1), (3, .int x.2.2)] → W p l e rm_X5_tellOf s m args below meth c H locs 0 0 Q (F0 m 11 ls [])) (l0 : Int64) (l2 : Int32) (l3 : Int32) (s0 : Int32) (H : Heap) (locs : List Loc) (ls : Array Slot), b_X5_tellOf_30 fu k_11 l0 l2 l3 s0 = some out → va_P D CL [] H → va_D A [] → va_S A s.heap H locs → lv_has ls 5 [(0, .long l0), (2, .int l2), (3, .int l3)] → W p l e rm_X5_tellOf s m args below meth c H locs 0 0 Q (F0 m 30 ls [.int s0]) := by
    intro k_11 HK_11 l0 l2 l3 s0 H locs ls hm hP hD hS hl
    unfold b_X5_tellOf_30 at hm
    refine lv_istore (lv' := [(4, .int s0), (0, .long l0), (2, .int l2), (3, .int l3)]) hx hb dX5_tellOf_30 hl (by decide) rfl (fun ls hl => ?_)
    refine lv_lload_n hx hb dX5_tellOf_32 rfl (lv_at hl 1 rfl) ?_
    refine lv_iload hx hb dX5_tellOf_33 (lv_at hl 0 rfl) ?_
    obtain ⟨o1, ho2, hm⟩ := bd_s hm
    refine xr_i (wr := []) (wn := []) (va_runS (As := [.long l0, .int s0]) (rest := []) ⟨hx, hb, hml, hown, htg⟩ (c_X5_isIn l D cA _ fu l0 s0 o1 ho2) (cwS 2 htg (gS q_3_185 q_3_186 q_1_1 q_3_187) rfl rfl rfl hd_X5_isIn ⟨Nat.le_of_ble_eq_true rfl, Nat.le_of_ble_eq_true rfl⟩) (xpS hN hK hP hD [] rfl (by decide)) rfl rfl hl.1 rfl (lv_room (Nat.le_of_ble_eq_true rfl)) dX5_tellOf_35 ⟨Nat.zero_le _, Nat.zero_le _⟩) hP hD hS hA [] [] [] rfl rfl (by decide) (by decide) rfl (by decide) (fun H locs hP hD hS => ?_)
    refine lv_if_eq (tgt := 44) hx hb dX5_tellOf_38 (by decide) (fun c3 => ?_) (fun c3 => ?_)
    · have hm := it_t c3 hm
      refine lv_iinc (v := (l3 + (1 : Int32))) (lv' := [(3, .int (l3 + (1 : Int32))), (4, .int s0), (0, .long l0), (2, .int l2)]) hx hb dX5_tellOf_44 hl (k := 3) rfl rfl (by decide) rfl (fun ls hl => ?_)
      refine lv_goto (tgt := 11) hx hb dX5_tellOf_47 (by decide) ?_
      exact HK_11 _ _ _ _ hm hP hD hS (lv_sub hl [2, 3, 0] rfl)
    · have hm := it_f c3 hm
      refine lv_iload hx hb dX5_tellOf_41 (lv_at hl 0 rfl) ?_
      rw [hQ]
      exact W.iret (v := s0) hx hb hr (fun t9 ht hW => ⟨⟨s0, (), rfl, (Option.some.inj hm), by rw [ht]; exact hP, va_K.moved hW.alike hK, hD⟩, hS.F ht⟩) hS.2.2 dX5_tellOf_43
  have B_11 : ∀ (n : Nat) (x : Int64 × Int32 × Int32) (H : Heap) (locs : List Loc) (ls : Array Slot), lfix (b_X5_tellOf_11 fu) n x = some out → va_P D CL [] H → va_D A [] → va_S A s.heap H locs → lv_has ls 5 [(0, .long x.1), (2, .int x.2.1), (3, .int x.2.2)] → W p l e rm_X5_tellOf s m args below meth c H locs 0 0 Q (F0 m 11 ls []) := by
    intro  n
    induction n with
    | zero => intro x H locs ls hm; cases (show none = some out from hm)
    | succ n HK_11 =>
      intro x H locs ls hm hP hD hS hl
      replace hm : b_X5_tellOf_11 fu (lfix (b_X5_tellOf_11 fu) n) x = some out := hm
      unfold b_X5_tellOf_11 at hm
      refine lv_iload_n hx hb dX5_tellOf_11 rfl (lv_at hl 2 rfl) ?_
      refine lv_bipush (v := (40 : Int32)) hx hb dX5_tellOf_12 (by decide) ?_
      refine lv_icmp_gt (tgt := 50) hx hb dX5_tellOf_14 (by decide) (fun c4 => ?_) (fun c4 => ?_)
      · have hm := it_t c4 hm
        refine lv_iconst (v := (-1 : Int32)) hx hb dX5_tellOf_50 (by decide) ?_
        rw [hQ]
        exact W.iret (v := (-1 : Int32)) hx hb hr (fun t9 ht hW => ⟨⟨(-1 : Int32), (), rfl, (Option.some.inj hm), by rw [ht]; exact hP, va_K.moved hW.alike hK, hD⟩, hS.F ht⟩) hS.2.2 dX5_tellOf_51
      · have hm := it_f c4 hm
        refine lv_iload_n hx hb dX5_tellOf_17 rfl (lv_at hl 1 rfl) ?_
        refine lv_iconst (v := (1 : Int32)) hx hb dX5_tellOf_18 (by decide) ?_
        refine lv_icmp_ne (tgt := 26) hx hb dX5_tellOf_19 (by decide) (fun c5 => ?_) (fun c5 => ?_)
        · have hm := it_f c5 hm
          refine lv_bipush (v := (40 : Int32)) hx hb dX5_tellOf_26 (by decide) ?_
          refine lv_iload_n hx hb dX5_tellOf_28 rfl (lv_at hl 2 rfl) ?_
          refine lv_isub hx hb dX5_tellOf_29 ?_
          exact B_30 _ HK_11 _ _ _ _ _ _ _ hm hP hD hS (lv_sub hl [0, 1, 2] rfl)
        · have hm := it_t c5 hm
          refine lv_iload_n hx hb dX5_tellOf_22 rfl (lv_at hl 2 rfl) ?_
          refine lv_goto (tgt := 30) hx hb dX5_tellOf_23 (by decide) ?_
          exact B_30 _ HK_11 _ _ _ _ _ _ _ hm hP hD hS (lv_sub hl [0, 1, 2] rfl)
  unfold m_X5_tellOf at hm
  subst hargs
  have hl := lv_entry ([.long l0, .int l2]) (n := 5) (Nat.le_of_ble_eq_true rfl)
  rw [lg_entry_eq]
  generalize (lg_sl ([.long l0, .int l2]) ++ List.replicate (5 - (lg_sl ([.long l0, .int l2])).length) Slot.unset).toArray = ls at hl ⊢
  have hl : lv_has ls 5 [(0, .long l0), (2, .int l2)] := hl
  refine lv_iload_n hx hb dX5_tellOf_0 rfl (lv_at hl 1 rfl) ?_
  refine lv_if_ne (tgt := 9) hx hb dX5_tellOf_1 (by decide) (fun c6 => ?_) (fun c6 => ?_)
  · have hm := it_f c6 hm
    refine lv_iconst (v := (0 : Int32)) hx hb dX5_tellOf_9 (by decide) ?_
    refine lv_istore_n (lv' := [(3, .int (0 : Int32)), (0, .long l0), (2, .int l2)]) hx hb dX5_tellOf_10 rfl hl (by decide) rfl (fun ls hl => ?_)
    exact B_11 fu _ _ _ _ hm hP hD hS (lv_sub hl [1, 2, 0] rfl)
  · have hm := it_t c6 hm
    refine lv_lload_n hx hb dX5_tellOf_4 rfl (lv_at hl 0 rfl) ?_
    obtain ⟨o7, ho8, hm⟩ := bd_s hm
    refine xr_i (wr := []) (wn := []) (va_runS (As := [.long l0]) (rest := []) ⟨hx, hb, hml, hown, htg⟩ (c_J13_bitCount_95d88 l D cA _ fu l0 o7 ho8) ⟨callB_of 1 htg (gU q_3_181) rfl rfl rfl (htg _ q_1_15) (htg _ q_3_179) hd_J13_bitCount_95d88.2 ⟨Nat.le_of_ble_eq_true rfl, Nat.le_of_ble_eq_true rfl⟩, htg _ q_3_180⟩ (xpS hN hK hP hD [] rfl (by decide)) rfl rfl hl.1 rfl (lv_room (Nat.le_of_ble_eq_true rfl)) dX5_tellOf_5 ⟨Nat.zero_le _, Nat.zero_le _⟩) hP hD hS hA [] [] [] rfl rfl (by decide) (by decide) rfl (by decide) (fun H locs hP hD hS => ?_)
    rw [hQ]
    exact W.iret (v := o7.1) hx hb hr (fun t9 ht hW => ⟨⟨o7.1, (), rfl, (Option.some.inj hm), by rw [ht]; exact hP, va_K.moved hW.alike hK, hD⟩, hS.F ht⟩) hS.2.2 dX5_tellOf_8
def m_X5_depthsPouredInto (fu : Nat) (l0 : Int64) : Option (Int64 × Unit) :=
  some ((((l0 <<< ((1 : Int32).toInt64 &&& 63)) ||| (l0 &&& (1 : Int64))) &&& (2199023255551 : Int64)), ())
abbrev rm_X5_depthsPouredInto : Room := ({ frames := 0, cells := 0, slots := 0, locals := 0 } : Room)
abbrev w0_X5_depthsPouredInto (cA : Nat → ClassId)  : va_W := []
abbrev w1_X5_depthsPouredInto (cA : Nat → ClassId)  (u : Unit) : va_W := []
theorem hd_X5_depthsPouredInto : yX5_depthsPouredInto.cls = RX5 ∧ yX5_depthsPouredInto.cls ≠ "java/lang/invoke/MethodHandle" ∧ yX5_depthsPouredInto.cls ≠ "java/lang/invoke/VarHandle" ∧ (parseMethodDescriptor yX5_depthsPouredInto.desc).map (fun d => d.parameters.length) = some 1 := by decide +kernel
set_option maxHeartbeats 40000000 in
set_option maxRecDepth 100000 in
theorem c_X5_depthsPouredInto (l : Launch) (D : va_G) (cA : Nat → ClassId) (sz : Nat) (fu : Nat) (l0 : Int64) (out : Int64 × Unit) (hm : m_X5_depthsPouredInto fu l0 = some out) : ML l yX5_depthsPouredInto (wU yX5_depthsPouredInto cX5_depthsPouredInto 2 ((Option.some Jvm.ClassFile.FieldType.long))) rm_X5_depthsPouredInto D cA sz [.long l0] (w0_X5_depthsPouredInto cA ) out (w1_X5_depthsPouredInto cA ) := by
  refine Met.ofW (cc := cX5_depthsPouredInto) (maxL := 2) (ret := (Option.some Jvm.ClassFile.FieldType.long)) (by decide) rfl ?_
  intro p e s m args below meth c s₁ B hml hv
  obtain ⟨hargs, hsz, hP, hK, hD0, hN⟩ := hv
  have hx := B.exec
  have hb := B.bytes
  have hr := B.returns
  have htg : ∀ w ∈ gw, w.before args s = true := fun w h => atoms_spec (ws := wU yX5_depthsPouredInto cX5_depthsPouredInto 2 ((Option.some Jvm.ClassFile.FieldType.long))) B.pre w (List.mem_cons_of_mem _ h)
  have hown : s.vm.findClass RX5 = some m.cls := findClass_of_methodNamed B.named
  have hlocks := B.notSynchronized
  subst hsz
  have hD := hD0.self (sz := s.heap.size)
  have hA : ∀ q : Nat, s.heap.size ≤ q → va_A (w0_X5_depthsPouredInto cA ) s.heap.size q := fun q h => Or.inr h
  have hS : va_S (va_A (w0_X5_depthsPouredInto cA ) s.heap.size) s.heap s.heap [] := va_S.rf
  generalize va_A (w0_X5_depthsPouredInto cA ) s.heap.size = A at hA hD hS ⊢
  obtain ⟨Q, hQ⟩ : ∃ Q : State → Prop, Q = MQ below (va_Ql (fun (r : Int64) (u : Unit) => (r, u) = out) (pst0 D cA A (w1_X5_depthsPouredInto cA )) A) args s 0 0 A := ⟨_, rfl⟩
  refine (?_ : W p l e rm_X5_depthsPouredInto s m args below meth c s.heap [] 0 0 (MQ below (va_Ql (fun (r : Int64) (u : Unit) => (r, u) = out) (pst0 D cA A (w1_X5_depthsPouredInto cA )) A) args s 0 0 A) (entryFrame m args 2))
  rw [← hQ]
  have hP : va_P D CL [] s.heap := hP
  have hD : va_D A [] := hD
  unfold m_X5_depthsPouredInto at hm
  subst hargs
  have hl := lv_entry ([.long l0]) (n := 2) (Nat.le_of_ble_eq_true rfl)
  rw [lg_entry_eq]
  generalize (lg_sl ([.long l0]) ++ List.replicate (2 - (lg_sl ([.long l0])).length) Slot.unset).toArray = ls at hl ⊢
  have hl : lv_has ls 2 [(0, .long l0)] := hl
  refine lv_lload_n hx hb dX5_depthsPouredInto_0 rfl (lv_at hl 0 rfl) ?_
  refine lv_iconst (v := (1 : Int32)) hx hb dX5_depthsPouredInto_1 (by decide) ?_
  refine lv_lshl hx hb dX5_depthsPouredInto_2 rfl ?_
  refine lv_lload_n hx hb dX5_depthsPouredInto_3 rfl (lv_at hl 0 rfl) ?_
  refine lv_lconst (v := (1 : Int64)) hx hb dX5_depthsPouredInto_4 (by decide) ?_
  refine lv_land hx hb dX5_depthsPouredInto_5 ?_
  refine lv_lor hx hb dX5_depthsPouredInto_6 ?_
  refine lv_ldc2 (v := (2199023255551 : Int64)) hx hb hown (htg _ q_3_238) dX5_depthsPouredInto_7 ?_
  refine lv_land hx hb dX5_depthsPouredInto_10 ?_
  rw [hQ]
  exact W.lret (v := (((l0 <<< ((1 : Int32).toInt64 &&& 63)) ||| (l0 &&& (1 : Int64))) &&& (2199023255551 : Int64))) hx hb hr (fun t9 ht hW => ⟨⟨(((l0 <<< ((1 : Int32).toInt64 &&& 63)) ||| (l0 &&& (1 : Int64))) &&& (2199023255551 : Int64)), (), rfl, (Option.some.inj hm), by rw [ht]; exact hP, va_K.moved hW.alike hK, hD⟩, hS.F ht⟩) hS.2.2 dX5_depthsPouredInto_11
def m_X5_depthsDrawnInto (fu : Nat) (l0 : Int64) : Option (Int64 × Unit) :=
  some ((((l0.toUInt64 >>> ((1 : Int32).toInt64.toUInt64 &&& Int64.toUInt64 63)).toInt64) ||| (l0 &&& (1099511627776 : Int64))), ())
abbrev rm_X5_depthsDrawnInto : Room := ({ frames := 0, cells := 0, slots := 0, locals := 0 } : Room)
abbrev w0_X5_depthsDrawnInto (cA : Nat → ClassId)  : va_W := []
abbrev w1_X5_depthsDrawnInto (cA : Nat → ClassId)  (u : Unit) : va_W := []
theorem hd_X5_depthsDrawnInto : yX5_depthsDrawnInto.cls = RX5 ∧ yX5_depthsDrawnInto.cls ≠ "java/lang/invoke/MethodHandle" ∧ yX5_depthsDrawnInto.cls ≠ "java/lang/invoke/VarHandle" ∧ (parseMethodDescriptor yX5_depthsDrawnInto.desc).map (fun d => d.parameters.length) = some 1 := by decide +kernel
set_option maxHeartbeats 40000000 in
set_option maxRecDepth 100000 in
theorem c_X5_depthsDrawnInto (l : Launch) (D : va_G) (cA : Nat → ClassId) (sz : Nat) (fu : Nat) (l0 : Int64) (out : Int64 × Unit) (hm : m_X5_depthsDrawnInto fu l0 = some out) : ML l yX5_depthsDrawnInto (wU yX5_depthsDrawnInto cX5_depthsDrawnInto 2 ((Option.some Jvm.ClassFile.FieldType.long))) rm_X5_depthsDrawnInto D cA sz [.long l0] (w0_X5_depthsDrawnInto cA ) out (w1_X5_depthsDrawnInto cA ) := by
  refine Met.ofW (cc := cX5_depthsDrawnInto) (maxL := 2) (ret := (Option.some Jvm.ClassFile.FieldType.long)) (by decide) rfl ?_
  intro p e s m args below meth c s₁ B hml hv
  obtain ⟨hargs, hsz, hP, hK, hD0, hN⟩ := hv
  have hx := B.exec
  have hb := B.bytes
  have hr := B.returns
  have htg : ∀ w ∈ gw, w.before args s = true := fun w h => atoms_spec (ws := wU yX5_depthsDrawnInto cX5_depthsDrawnInto 2 ((Option.some Jvm.ClassFile.FieldType.long))) B.pre w (List.mem_cons_of_mem _ h)
  have hown : s.vm.findClass RX5 = some m.cls := findClass_of_methodNamed B.named
  have hlocks := B.notSynchronized
  subst hsz
  have hD := hD0.self (sz := s.heap.size)
  have hA : ∀ q : Nat, s.heap.size ≤ q → va_A (w0_X5_depthsDrawnInto cA ) s.heap.size q := fun q h => Or.inr h
  have hS : va_S (va_A (w0_X5_depthsDrawnInto cA ) s.heap.size) s.heap s.heap [] := va_S.rf
  generalize va_A (w0_X5_depthsDrawnInto cA ) s.heap.size = A at hA hD hS ⊢
  obtain ⟨Q, hQ⟩ : ∃ Q : State → Prop, Q = MQ below (va_Ql (fun (r : Int64) (u : Unit) => (r, u) = out) (pst0 D cA A (w1_X5_depthsDrawnInto cA )) A) args s 0 0 A := ⟨_, rfl⟩
  refine (?_ : W p l e rm_X5_depthsDrawnInto s m args below meth c s.heap [] 0 0 (MQ below (va_Ql (fun (r : Int64) (u : Unit) => (r, u) = out) (pst0 D cA A (w1_X5_depthsDrawnInto cA )) A) args s 0 0 A) (entryFrame m args 2))
  rw [← hQ]
  have hP : va_P D CL [] s.heap := hP
  have hD : va_D A [] := hD
  unfold m_X5_depthsDrawnInto at hm
  subst hargs
  have hl := lv_entry ([.long l0]) (n := 2) (Nat.le_of_ble_eq_true rfl)
  rw [lg_entry_eq]
  generalize (lg_sl ([.long l0]) ++ List.replicate (2 - (lg_sl ([.long l0])).length) Slot.unset).toArray = ls at hl ⊢
  have hl : lv_has ls 2 [(0, .long l0)] := hl
  refine lv_lload_n hx hb dX5_depthsDrawnInto_0 rfl (lv_at hl 0 rfl) ?_
  refine lv_iconst (v := (1 : Int32)) hx hb dX5_depthsDrawnInto_1 (by decide) ?_
  refine lv_lushr hx hb dX5_depthsDrawnInto_2 rfl ?_
  refine lv_lload_n hx hb dX5_depthsDrawnInto_3 rfl (lv_at hl 0 rfl) ?_
  refine lv_ldc2 (v := (1099511627776 : Int64)) hx hb hown (htg _ q_4_2) dX5_depthsDrawnInto_4 ?_
  refine lv_land hx hb dX5_depthsDrawnInto_7 ?_
  refine lv_lor hx hb dX5_depthsDrawnInto_8 ?_
  rw [hQ]
  exact W.lret (v := (((l0.toUInt64 >>> ((1 : Int32).toInt64.toUInt64 &&& Int64.toUInt64 63)).toInt64) ||| (l0 &&& (1099511627776 : Int64)))) hx hb hr (fun t9 ht hW => ⟨⟨(((l0.toUInt64 >>> ((1 : Int32).toInt64.toUInt64 &&& Int64.toUInt64 63)).toInt64) ||| (l0 &&& (1099511627776 : Int64))), (), rfl, (Option.some.inj hm), by rw [ht]; exact hP, va_K.moved hW.alike hK, hD⟩, hS.F ht⟩) hS.2.2 dX5_depthsDrawnInto_9
def b_X5_depthsWonBefore_30 (fu : Nat) (s0 : Int64) : Option (Int64 × Unit) :=
  some (s0, ())
def m_X5_depthsWonBefore (fu : Nat) (l0 : Int64) (l2 : Int32) : Option (Int64 × Unit) :=
  (m_X5_depthsPouredInto fu l0).bind fun o1 =>
  (m_X5_depthsDrawnInto fu l0).bind fun o3 =>
  (if l2 = 0 then
    b_X5_depthsWonBefore_30 fu ((o1.1 &&& l0) &&& o3.1)
  else
    b_X5_depthsWonBefore_30 fu ((o1.1 ||| l0) ||| o3.1))
abbrev rm_X5_depthsWonBefore : Room := ({ frames := 1, cells := 0, slots := 0, locals := 21 } : Room)
abbrev w0_X5_depthsWonBefore (cA : Nat → ClassId)  : va_W := []
abbrev w1_X5_depthsWonBefore (cA : Nat → ClassId)  (u : Unit) : va_W := []
theorem hd_X5_depthsWonBefore : yX5_depthsWonBefore.cls = RX5 ∧ yX5_depthsWonBefore.cls ≠ "java/lang/invoke/MethodHandle" ∧ yX5_depthsWonBefore.cls ≠ "java/lang/invoke/VarHandle" ∧ (parseMethodDescriptor yX5_depthsWonBefore.desc).map (fun d => d.parameters.length) = some 2 := by decide +kernel
set_option maxHeartbeats 40000000 in
set_option maxRecDepth 100000 in
theorem c_X5_depthsWonBefore (l : Launch) (D : va_G) (cA : Nat → ClassId) (sz : Nat) (fu : Nat) (l0 : Int64) (l2 : Int32) (out : Int64 × Unit) (hm : m_X5_depthsWonBefore fu l0 l2 = some out) : ML l yX5_depthsWonBefore (wU yX5_depthsWonBefore cX5_depthsWonBefore 7 ((Option.some Jvm.ClassFile.FieldType.long))) rm_X5_depthsWonBefore D cA sz [.long l0, .int l2] (w0_X5_depthsWonBefore cA ) out (w1_X5_depthsWonBefore cA ) := by
  refine Met.ofW (cc := cX5_depthsWonBefore) (maxL := 7) (ret := (Option.some Jvm.ClassFile.FieldType.long)) (by decide) rfl ?_
  intro p e s m args below meth c s₁ B hml hv
  obtain ⟨hargs, hsz, hP, hK, hD0, hN⟩ := hv
  have hx := B.exec
  have hb := B.bytes
  have hr := B.returns
  have htg : ∀ w ∈ gw, w.before args s = true := fun w h => atoms_spec (ws := wU yX5_depthsWonBefore cX5_depthsWonBefore 7 ((Option.some Jvm.ClassFile.FieldType.long))) B.pre w (List.mem_cons_of_mem _ h)
  have hown : s.vm.findClass RX5 = some m.cls := findClass_of_methodNamed B.named
  have hlocks := B.notSynchronized
  subst hsz
  have hD := hD0.self (sz := s.heap.size)
  have hA : ∀ q : Nat, s.heap.size ≤ q → va_A (w0_X5_depthsWonBefore cA ) s.heap.size q := fun q h => Or.inr h
  have hS : va_S (va_A (w0_X5_depthsWonBefore cA ) s.heap.size) s.heap s.heap [] := va_S.rf
  generalize va_A (w0_X5_depthsWonBefore cA ) s.heap.size = A at hA hD hS ⊢
  obtain ⟨Q, hQ⟩ : ∃ Q : State → Prop, Q = MQ below (va_Ql (fun (r : Int64) (u : Unit) => (r, u) = out) (pst0 D cA A (w1_X5_depthsWonBefore cA )) A) args s 0 0 A := ⟨_, rfl⟩
  refine (?_ : W p l e rm_X5_depthsWonBefore s m args below meth c s.heap [] 0 0 (MQ below (va_Ql (fun (r : Int64) (u : Unit) => (r, u) = out) (pst0 D cA A (w1_X5_depthsWonBefore cA )) A) args s 0 0 A) (entryFrame m args 7))
  rw [← hQ]
  have hP : va_P D CL [] s.heap := hP
  have hD : va_D A [] := hD
  have B_30 : ∀ (s0 : Int64) (H : Heap) (locs : List Loc) (ls : Array Slot), b_X5_depthsWonBefore_30 fu s0 = some out → va_P D CL [] H → va_D A [] → va_S A s.heap H locs → lv_has ls 7 [] → W p l e rm_X5_depthsWonBefore s m args below meth c H locs 0 0 Q (F0 m 30 ls [.long s0]) := by
    intro  s0 H locs ls hm hP hD hS hl
    unfold b_X5_depthsWonBefore_30 at hm
    rw [hQ]
    exact W.lret (v := s0) hx hb hr (fun t9 ht hW => ⟨⟨s0, (), rfl, (Option.some.inj hm), by rw [ht]; exact hP, va_K.moved hW.alike hK, hD⟩, hS.F ht⟩) hS.2.2 dX5_depthsWonBefore_30
  unfold m_X5_depthsWonBefore at hm
  subst hargs
  have hl := lv_entry ([.long l0, .int l2]) (n := 7) (Nat.le_of_ble_eq_true rfl)
  rw [lg_entry_eq]
  generalize (lg_sl ([.long l0, .int l2]) ++ List.replicate (7 - (lg_sl ([.long l0, .int l2])).length) Slot.unset).toArray = ls at hl ⊢
  have hl : lv_has ls 7 [(0, .long l0), (2, .int l2)] := hl
  refine lv_lload_n hx hb dX5_depthsWonBefore_0 rfl (lv_at hl 0 rfl) ?_
  obtain ⟨o1, ho2, hm⟩ := bd_s hm
  refine xr_l (wr := []) (wn := []) (va_runS (As := [.long l0]) (rest := []) ⟨hx, hb, hml, hown, htg⟩ (c_X5_depthsPouredInto l D cA _ fu l0 o1 ho2) (cwS 1 htg (gS q_3_235 q_3_236 q_1_1 q_3_237) rfl rfl rfl hd_X5_depthsPouredInto ⟨Nat.le_of_ble_eq_true rfl, Nat.le_of_ble_eq_true rfl⟩) (xpS hN hK hP hD [] rfl (by decide)) rfl rfl hl.1 rfl (lv_room (Nat.le_of_ble_eq_true rfl)) dX5_depthsWonBefore_1 ⟨Nat.zero_le _, Nat.zero_le _⟩) hP hD hS hA [] [] [] rfl rfl (by decide) (by decide) rfl (by decide) (fun H locs hP hD hS => ?_)
  refine lv_lstore_n (lv' := [(3, .long o1.1), (0, .long l0), (2, .int l2)]) hx hb dX5_depthsWonBefore_4 rfl hl (by decide) rfl (fun ls hl => ?_)
  refine lv_lload_n hx hb dX5_depthsWonBefore_5 rfl (lv_at hl 1 rfl) ?_
  obtain ⟨o3, ho4, hm⟩ := bd_s hm
  refine xr_l (wr := []) (wn := []) (va_runS (As := [.long l0]) (rest := []) ⟨hx, hb, hml, hown, htg⟩ (c_X5_depthsDrawnInto l D cA _ fu l0 o3 ho4) (cwS 1 htg (gS q_3_239 q_4_0 q_1_1 q_4_1) rfl rfl rfl hd_X5_depthsDrawnInto ⟨Nat.le_of_ble_eq_true rfl, Nat.le_of_ble_eq_true rfl⟩) (xpS hN hK hP hD [] rfl (by decide)) rfl rfl hl.1 rfl (lv_room (Nat.le_of_ble_eq_true rfl)) dX5_depthsWonBefore_6 ⟨Nat.zero_le _, Nat.zero_le _⟩) hP hD hS hA [] [] [] rfl rfl (by decide) (by decide) rfl (by decide) (fun H locs hP hD hS => ?_)
  refine lv_lstore (lv' := [(5, .long o3.1), (3, .long o1.1), (0, .long l0), (2, .int l2)]) hx hb dX5_depthsWonBefore_9 hl (by decide) rfl (fun ls hl => ?_)
  refine lv_iload_n hx hb dX5_depthsWonBefore_11 rfl (lv_at hl 3 rfl) ?_
  refine lv_if_eq (tgt := 24) hx hb dX5_depthsWonBefore_12 (by decide) (fun c5 => ?_) (fun c5 => ?_)
  · have hm := it_t c5 hm
    refine lv_lload_n hx hb dX5_depthsWonBefore_24 rfl (lv_at hl 1 rfl) ?_
    refine lv_lload_n hx hb dX5_depthsWonBefore_25 rfl (lv_at hl 2 rfl) ?_
    refine lv_land hx hb dX5_depthsWonBefore_26 ?_
    refine lv_lload hx hb dX5_depthsWonBefore_27 (lv_at hl 0 rfl) ?_
    refine lv_land hx hb dX5_depthsWonBefore_29 ?_
    exact B_30 _ _ _ _ hm hP hD hS (lv_sub hl [] rfl)
  · have hm := it_f c5 hm
    refine lv_lload_n hx hb dX5_depthsWonBefore_15 rfl (lv_at hl 1 rfl) ?_
    refine lv_lload_n hx hb dX5_depthsWonBefore_16 rfl (lv_at hl 2 rfl) ?_
    refine lv_lor hx hb dX5_depthsWonBefore_17 ?_
    refine lv_lload hx hb dX5_depthsWonBefore_18 (lv_at hl 0 rfl) ?_
    refine lv_lor hx hb dX5_depthsWonBefore_20 ?_
    refine lv_goto (tgt := 30) hx hb dX5_depthsWonBefore_21 (by decide) ?_
    exact B_30 _ _ _ _ hm hP hD hS (lv_sub hl [] rfl)
def b_J7_fill_53178_5 (fu : Nat) (n_p0 : Nat) (k_5 : (Int32 × Int32 × Int32 × (Nat → Int32)) → Option ((Nat → Int32))) (x : Int32 × Int32 × Int32 × (Nat → Int32)) : Option ((Nat → Int32)) :=
  (if x.2.2.1 ≤ x.2.1 then
        some x.2.2.2
      else
        gd (inb x.2.1 n_p0) (
        k_5 (x.1, (x.2.1 + (1 : Int32)), x.2.2.1, (upd x.2.2.2 x.2.1.toNatClampNeg x.1))))
def m_J7_fill_53178 (fu : Nat) (n_p0 : Nat) (p0 : Nat → Int32) (l1 : Int32) : Option ((Nat → Int32)) :=
  lfix (b_J7_fill_53178_5 fu n_p0) fu (l1, (0 : Int32), (Int32.ofNat n_p0), p0)
abbrev rm_J7_fill_53178 : Room := ({ frames := 0, cells := 0, slots := 0, locals := 0 } : Room)
abbrev w0_J7_fill_53178 (cA : Nat → ClassId) (p0a0 : Nat) (n_p0 : Nat) (p0 : Nat → Int32) : va_W := [(p0a0, eI cA n_p0 p0)]
abbrev w1_J7_fill_53178 (cA : Nat → ClassId) (p0a0 : Nat) (n_p0 : Nat) (u : (Nat → Int32)) : va_W := [(p0a0, eI cA n_p0 u)]
theorem hd_J7_fill_53178 : yJ7_fill_53178.cls = RJ7 ∧ yJ7_fill_53178.cls ≠ "java/lang/invoke/MethodHandle" ∧ yJ7_fill_53178.cls ≠ "java/lang/invoke/VarHandle" ∧ (parseMethodDescriptor yJ7_fill_53178.desc).map (fun d => d.parameters.length) = some 2 := by decide +kernel
set_option maxHeartbeats 40000000 in
set_option maxRecDepth 100000 in
theorem c_J7_fill_53178 (l : Launch) (D : va_G) (cA : Nat → ClassId) (sz : Nat) (fu : Nat) (p0a0 : Nat) (n_p0 : Nat) (p0 : Nat → Int32) (l1 : Int32) (out : (Nat → Int32)) (hm : m_J7_fill_53178 fu n_p0 p0 l1 = some out) : MV l yJ7_fill_53178 (wU yJ7_fill_53178 cJ7_fill_53178 4 ((Option.none : Option Jvm.ClassFile.FieldType))) rm_J7_fill_53178 D cA sz [.ref p0a0, .int l1] (w0_J7_fill_53178 cA p0a0 n_p0 p0) out (w1_J7_fill_53178 cA p0a0 n_p0) := by
  refine Met.ofW (cc := cJ7_fill_53178) (maxL := 4) (ret := (Option.none : Option Jvm.ClassFile.FieldType)) (by decide) rfl ?_
  intro p e s m args below meth c s₁ B hml hv
  obtain ⟨hargs, hsz, hP, hK, hD0, hN⟩ := hv
  have hx := B.exec
  have hb := B.bytes
  have hr := B.returns
  have htg : ∀ w ∈ gw, w.before args s = true := fun w h => atoms_spec (ws := wU yJ7_fill_53178 cJ7_fill_53178 4 ((Option.none : Option Jvm.ClassFile.FieldType))) B.pre w (List.mem_cons_of_mem _ h)
  have hown : s.vm.findClass RJ7 = some m.cls := findClass_of_methodNamed B.named
  have hlocks := B.notSynchronized
  subst hsz
  have hD := hD0.self (sz := s.heap.size)
  have hA : ∀ q : Nat, s.heap.size ≤ q → va_A (w0_J7_fill_53178 cA p0a0 n_p0 p0) s.heap.size q := fun q h => Or.inr h
  have hS : va_S (va_A (w0_J7_fill_53178 cA p0a0 n_p0 p0) s.heap.size) s.heap s.heap [] := va_S.rf
  generalize va_A (w0_J7_fill_53178 cA p0a0 n_p0 p0) s.heap.size = A at hA hD hS ⊢
  obtain ⟨Q, hQ⟩ : ∃ Q : State → Prop, Q = MQ below (va_Qv (fun (u : (Nat → Int32)) => u = out) (pst0 D cA A (w1_J7_fill_53178 cA p0a0 n_p0)) A) args s 0 0 A := ⟨_, rfl⟩
  refine (?_ : W p l e rm_J7_fill_53178 s m args below meth c s.heap [] 0 0 (MQ below (va_Qv (fun (u : (Nat → Int32)) => u = out) (pst0 D cA A (w1_J7_fill_53178 cA p0a0 n_p0)) A) args s 0 0 A) (entryFrame m args 4))
  rw [← hQ]
  have hP : va_P D CL [(p0a0, eI cA n_p0 p0)] s.heap := hP
  have hD : va_D A [(p0a0, eI cA n_p0 p0)] := hD
  have B_5 : ∀ (n : Nat) (x : Int32 × Int32 × Int32 × (Nat → Int32)) (H : Heap) (locs : List Loc) (ls : Array Slot), lfix (b_J7_fill_53178_5 fu n_p0) n x = some out → va_P D CL [(p0a0, eI cA n_p0 x.2.2.2)] H → va_D A [(p0a0, eI cA n_p0 x.2.2.2)] → va_S A s.heap H locs → lv_has ls 4 [(0, .ref p0a0), (1, .int x.1), (2, .int x.2.1), (3, .int x.2.2.1)] → W p l e rm_J7_fill_53178 s m args below meth c H locs 0 0 Q (F0 m 5 ls []) := by
    intro  n
    induction n with
    | zero => intro x H locs ls hm; cases (show none = some out from hm)
    | succ n HK_5 =>
      intro x H locs ls hm hP hD hS hl
      replace hm : b_J7_fill_53178_5 fu n_p0 (lfix (b_J7_fill_53178_5 fu n_p0) n) x = some out := hm
      unfold b_J7_fill_53178_5 at hm
      refine lv_iload_n hx hb dJ7_fill_53178_5 rfl (lv_at hl 2 rfl) ?_
      refine lv_iload_n hx hb dJ7_fill_53178_6 rfl (lv_at hl 3 rfl) ?_
      refine lv_icmp_ge (tgt := 20) hx hb dJ7_fill_53178_7 (by decide) (fun c1 => ?_) (fun c1 => ?_)
      · have hm := it_t c1 hm
        rw [hQ]
        exact W.vret hx hb hr (fun t9 ht hW => ⟨⟨x.2.2.2, rfl, (Option.some.inj hm), by rw [ht]; exact hP, va_K.moved hW.alike hK, hD⟩, hS.F ht⟩) hS.2.2 dJ7_fill_53178_20
      · have hm := it_f c1 hm
        refine lv_aload_n hx hb dJ7_fill_53178_10 rfl (lv_at hl 0 rfl) ?_
        refine lv_iload_n hx hb dJ7_fill_53178_11 rfl (lv_at hl 2 rfl) ?_
        refine lv_iload_n hx hb dJ7_fill_53178_12 rfl (lv_at hl 1 rfl) ?_
        obtain ⟨hi2, hm⟩ := gd_s hm
        refine va_iast hx hb hK hP hD hS 0 0 rfl rfl hi2 dJ7_fill_53178_13 (fun H locs (hP : va_P D CL [(p0a0, eI cA n_p0 (upd x.2.2.2 x.2.1.toNatClampNeg x.1))] H) (hD : va_D A [(p0a0, eI cA n_p0 (upd x.2.2.2 x.2.1.toNatClampNeg x.1))]) hS => ?_)
        refine lv_iinc (v := (x.2.1 + (1 : Int32))) (lv' := [(2, .int (x.2.1 + (1 : Int32))), (0, .ref p0a0), (1, .int x.1), (3, .int x.2.2.1)]) hx hb dJ7_fill_53178_14 hl (k := 2) rfl rfl (by decide) rfl (fun ls hl => ?_)
        refine lv_goto (tgt := 5) hx hb dJ7_fill_53178_17 (by decide) ?_
        exact HK_5 _ _ _ _ hm hP hD hS (lv_sub hl [1, 2, 0, 3] rfl)
  unfold m_J7_fill_53178 at hm
  subst hargs
  have hl := lv_entry ([.ref p0a0, .int l1]) (n := 4) (Nat.le_of_ble_eq_true rfl)
  rw [lg_entry_eq]
  generalize (lg_sl ([.ref p0a0, .int l1]) ++ List.replicate (4 - (lg_sl ([.ref p0a0, .int l1])).length) Slot.unset).toArray = ls at hl ⊢
  have hl : lv_has ls 4 [(0, .ref p0a0), (1, .int l1)] := hl
  refine lv_iconst (v := (0 : Int32)) hx hb dJ7_fill_53178_0 (by decide) ?_
  refine lv_istore_n (lv' := [(2, .int (0 : Int32)), (0, .ref p0a0), (1, .int l1)]) hx hb dJ7_fill_53178_1 rfl hl (by decide) rfl (fun ls hl => ?_)
  refine lv_aload_n hx hb dJ7_fill_53178_2 rfl (lv_at hl 1 rfl) ?_
  refine va_alen (v := (Int32.ofNat n_p0)) hx hb hK hP 0 0 rfl rfl rfl dJ7_fill_53178_3 ?_
  refine lv_istore_n (lv' := [(3, .int (Int32.ofNat n_p0)), (2, .int (0 : Int32)), (0, .ref p0a0), (1, .int l1)]) hx hb dJ7_fill_53178_4 rfl hl (by decide) rfl (fun ls hl => ?_)
  exact B_5 fu _ _ _ _ hm hP hD hS (lv_sub hl [2, 3, 1, 0] rfl)
def m_J6_bitCount_0f7a4 (fu : Nat) (l0 : Int32) : Option (Int32 × Unit) :=
  (some (l0 - (((l0.toUInt32 >>> ((1 : Int32).toUInt32 &&& Int32.toUInt32 31)).toInt32) &&& (1431655765 : Int32)))).bind fun v1 =>
  (some ((v1 &&& (858993459 : Int32)) + (((v1.toUInt32 >>> ((2 : Int32).toUInt32 &&& Int32.toUInt32 31)).toInt32) &&& (858993459 : Int32)))).bind fun v3 =>
  (some ((v3 + ((v3.toUInt32 >>> ((4 : Int32).toUInt32 &&& Int32.toUInt32 31)).toInt32)) &&& (252645135 : Int32))).bind fun v5 =>
  (some (v5 + ((v5.toUInt32 >>> ((8 : Int32).toUInt32 &&& Int32.toUInt32 31)).toInt32))).bind fun v7 =>
  (some (v7 + ((v7.toUInt32 >>> ((16 : Int32).toUInt32 &&& Int32.toUInt32 31)).toInt32))).bind fun v9 =>
  some ((v9 &&& (63 : Int32)), ())
abbrev rm_J6_bitCount_0f7a4 : Room := ({ frames := 0, cells := 0, slots := 0, locals := 0 } : Room)
abbrev w0_J6_bitCount_0f7a4 (cA : Nat → ClassId)  : va_W := []
abbrev w1_J6_bitCount_0f7a4 (cA : Nat → ClassId)  (u : Unit) : va_W := []
theorem hd_J6_bitCount_0f7a4 : yJ6_bitCount_0f7a4.cls = RJ6 ∧ yJ6_bitCount_0f7a4.cls ≠ "java/lang/invoke/MethodHandle" ∧ yJ6_bitCount_0f7a4.cls ≠ "java/lang/invoke/VarHandle" ∧ (parseMethodDescriptor yJ6_bitCount_0f7a4.desc).map (fun d => d.parameters.length) = some 1 := by decide +kernel
set_option maxHeartbeats 40000000 in
set_option maxRecDepth 100000 in
theorem c_J6_bitCount_0f7a4 (l : Launch) (D : va_G) (cA : Nat → ClassId) (sz : Nat) (fu : Nat) (l0 : Int32) (out : Int32 × Unit) (hm : m_J6_bitCount_0f7a4 fu l0 = some out) : MI l yJ6_bitCount_0f7a4 (wU yJ6_bitCount_0f7a4 cJ6_bitCount_0f7a4 1 ((Option.some Jvm.ClassFile.FieldType.int))) rm_J6_bitCount_0f7a4 D cA sz [.int l0] (w0_J6_bitCount_0f7a4 cA ) out (w1_J6_bitCount_0f7a4 cA ) := by
  refine Met.ofW (cc := cJ6_bitCount_0f7a4) (maxL := 1) (ret := (Option.some Jvm.ClassFile.FieldType.int)) (by decide) rfl ?_
  intro p e s m args below meth c s₁ B hml hv
  obtain ⟨hargs, hsz, hP, hK, hD0, hN⟩ := hv
  have hx := B.exec
  have hb := B.bytes
  have hr := B.returns
  have htg : ∀ w ∈ gw, w.before args s = true := fun w h => atoms_spec (ws := wU yJ6_bitCount_0f7a4 cJ6_bitCount_0f7a4 1 ((Option.some Jvm.ClassFile.FieldType.int))) B.pre w (List.mem_cons_of_mem _ h)
  have hown : s.vm.findClass RJ6 = some m.cls := findClass_of_methodNamed B.named
  have hlocks := B.notSynchronized
  subst hsz
  have hD := hD0.self (sz := s.heap.size)
  have hA : ∀ q : Nat, s.heap.size ≤ q → va_A (w0_J6_bitCount_0f7a4 cA ) s.heap.size q := fun q h => Or.inr h
  have hS : va_S (va_A (w0_J6_bitCount_0f7a4 cA ) s.heap.size) s.heap s.heap [] := va_S.rf
  generalize va_A (w0_J6_bitCount_0f7a4 cA ) s.heap.size = A at hA hD hS ⊢
  obtain ⟨Q, hQ⟩ : ∃ Q : State → Prop, Q = MQ below (va_Qi (fun (r : Int32) (u : Unit) => (r, u) = out) (pst0 D cA A (w1_J6_bitCount_0f7a4 cA )) A) args s 0 0 A := ⟨_, rfl⟩
  refine (?_ : W p l e rm_J6_bitCount_0f7a4 s m args below meth c s.heap [] 0 0 (MQ below (va_Qi (fun (r : Int32) (u : Unit) => (r, u) = out) (pst0 D cA A (w1_J6_bitCount_0f7a4 cA )) A) args s 0 0 A) (entryFrame m args 1))
  rw [← hQ]
  have hP : va_P D CL [] s.heap := hP
  have hD : va_D A [] := hD
  unfold m_J6_bitCount_0f7a4 at hm
  subst hargs
  have hl := lv_entry ([.int l0]) (n := 1) (Nat.le_of_ble_eq_true rfl)
  rw [lg_entry_eq]
  generalize (lg_sl ([.int l0]) ++ List.replicate (1 - (lg_sl ([.int l0])).length) Slot.unset).toArray = ls at hl ⊢
  have hl : lv_has ls 1 [(0, .int l0)] := hl
  refine lv_iload_n hx hb dJ6_bitCount_0f7a4_0 rfl (lv_at hl 0 rfl) ?_
  refine lv_iload_n hx hb dJ6_bitCount_0f7a4_1 rfl (lv_at hl 0 rfl) ?_
  refine lv_iconst (v := (1 : Int32)) hx hb dJ6_bitCount_0f7a4_2 (by decide) ?_
  refine lv_iushr hx hb dJ6_bitCount_0f7a4_3 rfl ?_
  refine lv_ldcw (v := (1431655765 : Int32)) hx hb hown (htg _ q_4_50) dJ6_bitCount_0f7a4_4 ?_
  refine lv_iand hx hb dJ6_bitCount_0f7a4_7 ?_
  refine lv_isub hx hb dJ6_bitCount_0f7a4_8 ?_
  obtain ⟨v1, hv2, hm⟩ := bd_s hm
  rw [Option.some.inj hv2]
  refine lv_istore_n (lv' := [(0, .int v1)]) hx hb dJ6_bitCount_0f7a4_9 rfl hl (by decide) rfl (fun ls hl => ?_)
  refine lv_iload_n hx hb dJ6_bitCount_0f7a4_10 rfl (lv_at hl 0 rfl) ?_
  refine lv_ldcw (v := (858993459 : Int32)) hx hb hown (htg _ q_4_51) dJ6_bitCount_0f7a4_11 ?_
  refine lv_iand hx hb dJ6_bitCount_0f7a4_14 ?_
  refine lv_iload_n hx hb dJ6_bitCount_0f7a4_15 rfl (lv_at hl 0 rfl) ?_
  refine lv_iconst (v := (2 : Int32)) hx hb dJ6_bitCount_0f7a4_16 (by decide) ?_
  refine lv_iushr hx hb dJ6_bitCount_0f7a4_17 rfl ?_
  refine lv_ldcw (v := (858993459 : Int32)) hx hb hown (htg _ q_4_51) dJ6_bitCount_0f7a4_18 ?_
  refine lv_iand hx hb dJ6_bitCount_0f7a4_21 ?_
  refine lv_iadd hx hb dJ6_bitCount_0f7a4_22 ?_
  obtain ⟨v3, hv4, hm⟩ := bd_s hm
  rw [Option.some.inj hv4]
  refine lv_istore_n (lv' := [(0, .int v3)]) hx hb dJ6_bitCount_0f7a4_23 rfl hl (by decide) rfl (fun ls hl => ?_)
  refine lv_iload_n hx hb dJ6_bitCount_0f7a4_24 rfl (lv_at hl 0 rfl) ?_
  refine lv_iload_n hx hb dJ6_bitCount_0f7a4_25 rfl (lv_at hl 0 rfl) ?_
  refine lv_iconst (v := (4 : Int32)) hx hb dJ6_bitCount_0f7a4_26 (by decide) ?_
  refine lv_iushr hx hb dJ6_bitCount_0f7a4_27 rfl ?_
  refine lv_iadd hx hb dJ6_bitCount_0f7a4_28 ?_
  refine lv_ldcw (v := (252645135 : Int32)) hx hb hown (htg _ q_4_52) dJ6_bitCount_0f7a4_29 ?_
  refine lv_iand hx hb dJ6_bitCount_0f7a4_32 ?_
  obtain ⟨v5, hv6, hm⟩ := bd_s hm
  rw [Option.some.inj hv6]
  refine lv_istore_n (lv' := [(0, .int v5)]) hx hb dJ6_bitCount_0f7a4_33 rfl hl (by decide) rfl (fun ls hl => ?_)
  refine lv_iload_n hx hb dJ6_bitCount_0f7a4_34 rfl (lv_at hl 0 rfl) ?_
  refine lv_iload_n hx hb dJ6_bitCount_0f7a4_35 rfl (lv_at hl 0 rfl) ?_
  refine lv_bipush (v := (8 : Int32)) hx hb dJ6_bitCount_0f7a4_36 (by decide) ?_
  refine lv_iushr hx hb dJ6_bitCount_0f7a4_38 rfl ?_
  refine lv_iadd hx hb dJ6_bitCount_0f7a4_39 ?_
  obtain ⟨v7, hv8, hm⟩ := bd_s hm
  rw [Option.some.inj hv8]
  refine lv_istore_n (lv' := [(0, .int v7)]) hx hb dJ6_bitCount_0f7a4_40 rfl hl (by decide) rfl (fun ls hl => ?_)
  refine lv_iload_n hx hb dJ6_bitCount_0f7a4_41 rfl (lv_at hl 0 rfl) ?_
  refine lv_iload_n hx hb dJ6_bitCount_0f7a4_42 rfl (lv_at hl 0 rfl) ?_
  refine lv_bipush (v := (16 : Int32)) hx hb dJ6_bitCount_0f7a4_43 (by decide) ?_
  refine lv_iushr hx hb dJ6_bitCount_0f7a4_45 rfl ?_
  refine lv_iadd hx hb dJ6_bitCount_0f7a4_46 ?_
  obtain ⟨v9, hv10, hm⟩ := bd_s hm
  rw [Option.some.inj hv10]
  refine lv_istore_n (lv' := [(0, .int v9)]) hx hb dJ6_bitCount_0f7a4_47 rfl hl (by decide) rfl (fun ls hl => ?_)
  refine lv_iload_n hx hb dJ6_bitCount_0f7a4_48 rfl (lv_at hl 0 rfl) ?_
  refine lv_bipush (v := (63 : Int32)) hx hb dJ6_bitCount_0f7a4_49 (by decide) ?_
  refine lv_iand hx hb dJ6_bitCount_0f7a4_51 ?_
  rw [hQ]
  exact W.iret (v := (v9 &&& (63 : Int32))) hx hb hr (fun t9 ht hW => ⟨⟨(v9 &&& (63 : Int32)), (), rfl, (Option.some.inj hm), by rw [ht]; exact hP, va_K.moved hW.alike hK, hD⟩, hS.F ht⟩) hS.2.2 dJ6_bitCount_0f7a4_52
def m_X5_isEchoSize (fu : Nat) (l0 : Int32) : Option (Int32 × Unit) :=
  (m_X5_isWithin fu l0 (0 : Int32) (13 : Int32)).bind fun o1 =>
  gd (bz o1.1) (some (o1.1, ()))
abbrev rm_X5_isEchoSize : Room := ({ frames := 1, cells := 0, slots := 0, locals := 22 } : Room)
abbrev w0_X5_isEchoSize (cA : Nat → ClassId)  : va_W := []
abbrev w1_X5_isEchoSize (cA : Nat → ClassId)  (u : Unit) : va_W := []
theorem hd_X5_isEchoSize : yX5_isEchoSize.cls = RX5 ∧ yX5_isEchoSize.cls ≠ "java/lang/invoke/MethodHandle" ∧ yX5_isEchoSize.cls ≠ "java/lang/invoke/VarHandle" ∧ (parseMethodDescriptor yX5_isEchoSize.desc).map (fun d => d.parameters.length) = some 1 := by decide +kernel
set_option maxHeartbeats 40000000 in
set_option maxRecDepth 100000 in
theorem c_X5_isEchoSize (l : Launch) (D : va_G) (cA : Nat → ClassId) (sz : Nat) (fu : Nat) (l0 : Int32) (out : Int32 × Unit) (hm : m_X5_isEchoSize fu l0 = some out) : MI l yX5_isEchoSize (wU yX5_isEchoSize cX5_isEchoSize 1 ((Option.some Jvm.ClassFile.FieldType.boolean))) rm_X5_isEchoSize D cA sz [.int l0] (w0_X5_isEchoSize cA ) out (w1_X5_isEchoSize cA ) := by
  refine Met.ofW (cc := cX5_isEchoSize) (maxL := 1) (ret := (Option.some Jvm.ClassFile.FieldType.boolean)) (by decide) rfl ?_
  intro p e s m args below meth c s₁ B hml hv
  obtain ⟨hargs, hsz, hP, hK, hD0, hN⟩ := hv
  have hx := B.exec
  have hb := B.bytes
  have hr := B.returns
  have htg : ∀ w ∈ gw, w.before args s = true := fun w h => atoms_spec (ws := wU yX5_isEchoSize cX5_isEchoSize 1 ((Option.some Jvm.ClassFile.FieldType.boolean))) B.pre w (List.mem_cons_of_mem _ h)
  have hown : s.vm.findClass RX5 = some m.cls := findClass_of_methodNamed B.named
  have hlocks := B.notSynchronized
  subst hsz
  have hD := hD0.self (sz := s.heap.size)
  have hA : ∀ q : Nat, s.heap.size ≤ q → va_A (w0_X5_isEchoSize cA ) s.heap.size q := fun q h => Or.inr h
  have hS : va_S (va_A (w0_X5_isEchoSize cA ) s.heap.size) s.heap s.heap [] := va_S.rf
  generalize va_A (w0_X5_isEchoSize cA ) s.heap.size = A at hA hD hS ⊢
  obtain ⟨Q, hQ⟩ : ∃ Q : State → Prop, Q = MQ below (va_Qi (fun (r : Int32) (u : Unit) => (r, u) = out) (pst0 D cA A (w1_X5_isEchoSize cA )) A) args s 0 0 A := ⟨_, rfl⟩
  refine (?_ : W p l e rm_X5_isEchoSize s m args below meth c s.heap [] 0 0 (MQ below (va_Qi (fun (r : Int32) (u : Unit) => (r, u) = out) (pst0 D cA A (w1_X5_isEchoSize cA )) A) args s 0 0 A) (entryFrame m args 1))
  rw [← hQ]
  have hP : va_P D CL [] s.heap := hP
  have hD : va_D A [] := hD
  unfold m_X5_isEchoSize at hm
  subst hargs
  have hl := lv_entry ([.int l0]) (n := 1) (Nat.le_of_ble_eq_true rfl)
  rw [lg_entry_eq]
  generalize (lg_sl ([.int l0]) ++ List.replicate (1 - (lg_sl ([.int l0])).length) Slot.unset).toArray = ls at hl ⊢
  have hl : lv_has ls 1 [(0, .int l0)] := hl
  refine lv_iload_n hx hb dX5_isEchoSize_0 rfl (lv_at hl 0 rfl) ?_
  refine lv_iconst (v := (0 : Int32)) hx hb dX5_isEchoSize_1 (by decide) ?_
  refine lv_bipush (v := (13 : Int32)) hx hb dX5_isEchoSize_2 (by decide) ?_
  obtain ⟨o1, ho2, hm⟩ := bd_s hm
  refine xr_i (wr := []) (wn := []) (va_runS (As := [.int l0, .int (0 : Int32), .int (13 : Int32)]) (rest := []) ⟨hx, hb, hml, hown, htg⟩ (c_X5_isWithin l D cA _ fu l0 (0 : Int32) (13 : Int32) o1 ho2) (cwS 3 htg (gS q_2_7 q_2_8 q_1_1 q_2_9) rfl rfl rfl hd_X5_isWithin ⟨Nat.le_of_ble_eq_true rfl, Nat.le_of_ble_eq_true rfl⟩) (xpS hN hK hP hD [] rfl (by decide)) rfl rfl hl.1 rfl (lv_room (Nat.le_of_ble_eq_true rfl)) dX5_isEchoSize_4 ⟨Nat.zero_le _, Nat.zero_le _⟩) hP hD hS hA [] [] [] rfl rfl (by decide) (by decide) rfl (by decide) (fun H locs hP hD hS => ?_)
  obtain ⟨hz3, hm⟩ := gd_s hm
  rw [hQ]
  exact W.zret (v := o1.1) hx hb hr (bz_nr hz3) (fun t9 ht hW => ⟨⟨o1.1, (), rfl, (Option.some.inj hm), by rw [ht]; exact hP, va_K.moved hW.alike hK, hD⟩, hS.F ht⟩) hS.2.2 dX5_isEchoSize_7
