def b_X2_hasRoom_15 (fu : Nat) (t : Nat → Int32) (s0 : Int32) : Option (Int32 × Unit) :=
  gd (bz s0) (some (s0, ()))
def m_X2_hasRoom (fu : Nat) (t : Nat → Int32) : Option (Int32 × Unit) :=
  (if (250 : Int32) ≤ t 1 then
    b_X2_hasRoom_15 fu t (0 : Int32)
  else
    b_X2_hasRoom_15 fu t (1 : Int32))
abbrev rm_X2_hasRoom : Room := ({ frames := 0, cells := 0, slots := 0, locals := 0 } : Room)
abbrev w0_X2_hasRoom (cA : Nat → ClassId) (a0 : Nat) (a1 : Nat) (t : Nat → Int32) : va_W := [(a0, e_X2 a1 t)]
abbrev w1_X2_hasRoom (cA : Nat → ClassId) (a0 : Nat) (a1 : Nat) (t : Nat → Int32) (u : Unit) : va_W := [(a0, e_X2 a1 t)]
theorem hd_X2_hasRoom : yX2_hasRoom.cls = RX2 ∧ yX2_hasRoom.cls ≠ "java/lang/invoke/MethodHandle" ∧ yX2_hasRoom.cls ≠ "java/lang/invoke/VarHandle" ∧ (parseMethodDescriptor yX2_hasRoom.desc).map (fun d => d.parameters.length) = some 0 := by decide +kernel
set_option maxHeartbeats 40000000 in
set_option maxRecDepth 100000 in
theorem c_X2_hasRoom (l : Launch) (D : va_G) (cA : Nat → ClassId) (sz : Nat) (fu : Nat) (a0 : Nat) (a1 : Nat) (t : Nat → Int32) (out : Int32 × Unit) (hm : m_X2_hasRoom fu t = some out) : MI l yX2_hasRoom (wU yX2_hasRoom cX2_hasRoom 1 ((Option.some Jvm.ClassFile.FieldType.boolean))) rm_X2_hasRoom D cA sz [.ref a0] (w0_X2_hasRoom cA a0 a1 t) out (w1_X2_hasRoom cA a0 a1 t) := by
  refine Met.ofW (cc := cX2_hasRoom) (maxL := 1) (ret := (Option.some Jvm.ClassFile.FieldType.boolean)) (by decide) rfl ?_
  intro p e s m args below meth c s₁ B hml hv
  obtain ⟨hargs, hsz, hP, hK, hD0, hN⟩ := hv
  have hx := B.exec
  have hb := B.bytes
  have hr := B.returns
  have htg : ∀ w ∈ gw, w.before args s = true := fun w h => atoms_spec (ws := wU yX2_hasRoom cX2_hasRoom 1 ((Option.some Jvm.ClassFile.FieldType.boolean))) B.pre w (List.mem_cons_of_mem _ h)
  have hown : s.vm.findClass RX2 = some m.cls := findClass_of_methodNamed B.named
  have hlocks := B.notSynchronized
  subst hsz
  have hD := hD0.self (sz := s.heap.size)
  have hA : ∀ q : Nat, s.heap.size ≤ q → va_A (w0_X2_hasRoom cA a0 a1 t) s.heap.size q := fun q h => Or.inr h
  have hS : va_S (va_A (w0_X2_hasRoom cA a0 a1 t) s.heap.size) s.heap s.heap [] := va_S.rf
  generalize va_A (w0_X2_hasRoom cA a0 a1 t) s.heap.size = A at hA hD hS ⊢
  obtain ⟨Q, hQ⟩ : ∃ Q : State → Prop, Q = MQ below (va_Qi (fun (r : Int32) (u : Unit) => (r, u) = out) (pst0 D cA A (w1_X2_hasRoom cA a0 a1 t)) A) args s 0 0 A := ⟨_, rfl⟩
  refine (?_ : W p l e rm_X2_hasRoom s m args below meth c s.heap [] 0 0 (MQ below (va_Qi (fun (r : Int32) (u : Unit) => (r, u) = out) (pst0 D cA A (w1_X2_hasRoom cA a0 a1 t)) A) args s 0 0 A) (entryFrame m args 1))
  rw [← hQ]
  have hP : va_P D CL [(a0, e_X2 a1 t)] s.heap := hP
  have hD : va_D A [(a0, e_X2 a1 t)] := hD
  have B_15 : ∀ (s0 : Int32) (H : Heap) (locs : List Loc) (ls : Array Slot), b_X2_hasRoom_15 fu t s0 = some out → va_P D CL [(a0, e_X2 a1 t)] H → va_D A [(a0, e_X2 a1 t)] → va_S A s.heap H locs → lv_has ls 1 [(0, .ref a0)] → W p l e rm_X2_hasRoom s m args below meth c H locs 0 0 Q (F0 m 15 ls [.int s0]) := by
    intro  s0 H locs ls hm hP hD hS hl
    unfold b_X2_hasRoom_15 at hm
    obtain ⟨hz1, hm⟩ := gd_s hm
    rw [hQ]
    exact W.zret (v := s0) hx hb hr (bz_nr hz1) (fun t9 ht hW => ⟨⟨s0, (), rfl, (Option.some.inj hm), by rw [ht]; exact hP, va_K.moved hW.alike hK, hD⟩, hS.F ht⟩) hS.2.2 dX2_hasRoom_15
  unfold m_X2_hasRoom at hm
  subst hargs
  have hl := lv_entry ([.ref a0]) (n := 1) (Nat.le_of_ble_eq_true rfl)
  rw [lg_entry_eq]
  generalize (lg_sl ([.ref a0]) ++ List.replicate (1 - (lg_sl ([.ref a0])).length) Slot.unset).toArray = ls at hl ⊢
  have hl : lv_has ls 1 [(0, .ref a0)] := hl
  refine lv_aload_n hx hb dX2_hasRoom_0 rfl (lv_at hl 0 rfl) ?_
  refine va_get (D := D) (ci := 2) (v := .int (t 1)) (C := RX2) (T := TX2) (N := 5) hx hb htg inX2 hown hK hP 0 rfl rfl 1 (by decide) (htg _ q_1_116) (fun _ h9 => h9) rfl dX2_hasRoom_1 ?_
  refine lv_sipush (v := (250 : Int32)) hx hb dX2_hasRoom_4 (by decide) ?_
  refine lv_icmp_ge (tgt := 14) hx hb dX2_hasRoom_7 (by decide) (fun c2 => ?_) (fun c2 => ?_)
  · have hm := it_t c2 hm
    refine lv_iconst (v := (0 : Int32)) hx hb dX2_hasRoom_14 (by decide) ?_
    exact B_15 _ _ _ _ hm hP hD hS (lv_sub hl [0] rfl)
  · have hm := it_f c2 hm
    refine lv_iconst (v := (1 : Int32)) hx hb dX2_hasRoom_10 (by decide) ?_
    refine lv_goto (tgt := 15) hx hb dX2_hasRoom_11 (by decide) ?_
    exact B_15 _ _ _ _ hm hP hD hS (lv_sub hl [0] rfl)
def b_X2_put_34 (fu : Nat) (t : Nat → Int32) (t_bytes : Nat → Int32) : Option ((Nat → Int32) × (Nat → Int32)) :=
  some (t, t_bytes)
def m_X2_put (fu : Nat) (t : Nat → Int32) (t_bytes : Nat → Int32) (l1 : Int32) : Option ((Nat → Int32) × (Nat → Int32)) :=
  (m_X5_isWithin fu (t 1) (0 : Int32) (249 : Int32)).bind fun o1 =>
  (if o1.1 = 0 then
    b_X2_put_34 fu t t_bytes
  else
    gd (inb (t 1) 250) (
    b_X2_put_34 fu (upd t 1 (t 1 + (1 : Int32))) (upd t_bytes (t 1).toNatClampNeg l1)))
abbrev rm_X2_put : Room := ({ frames := 1, cells := 0, slots := 0, locals := 22 } : Room)
abbrev w0_X2_put (cA : Nat → ClassId) (a0 : Nat) (a1 : Nat) (t : Nat → Int32) (t_bytes : Nat → Int32) : va_W := [(a0, e_X2 a1 t), (a1, eI cA 250 t_bytes)]
abbrev w1_X2_put (cA : Nat → ClassId) (a0 : Nat) (a1 : Nat) (u : (Nat → Int32) × (Nat → Int32)) : va_W := [(a0, e_X2 a1 u.1), (a1, eI cA 250 u.2)]
theorem hd_X2_put : yX2_put.cls = RX2 ∧ yX2_put.cls ≠ "java/lang/invoke/MethodHandle" ∧ yX2_put.cls ≠ "java/lang/invoke/VarHandle" ∧ (parseMethodDescriptor yX2_put.desc).map (fun d => d.parameters.length) = some 1 := by decide +kernel
set_option maxHeartbeats 40000000 in
set_option maxRecDepth 100000 in
theorem c_X2_put (l : Launch) (D : va_G) (cA : Nat → ClassId) (sz : Nat) (fu : Nat) (a0 : Nat) (a1 : Nat) (t : Nat → Int32) (t_bytes : Nat → Int32) (l1 : Int32) (out : (Nat → Int32) × (Nat → Int32)) (hm : m_X2_put fu t t_bytes l1 = some out) : MV l yX2_put (wU yX2_put cX2_put 2 ((Option.none : Option Jvm.ClassFile.FieldType))) rm_X2_put D cA sz [.ref a0, .int l1] (w0_X2_put cA a0 a1 t t_bytes) out (w1_X2_put cA a0 a1) := by
  refine Met.ofW (cc := cX2_put) (maxL := 2) (ret := (Option.none : Option Jvm.ClassFile.FieldType)) (by decide) rfl ?_
  intro p e s m args below meth c s₁ B hml hv
  obtain ⟨hargs, hsz, hP, hK, hD0, hN⟩ := hv
  have hx := B.exec
  have hb := B.bytes
  have hr := B.returns
  have htg : ∀ w ∈ gw, w.before args s = true := fun w h => atoms_spec (ws := wU yX2_put cX2_put 2 ((Option.none : Option Jvm.ClassFile.FieldType))) B.pre w (List.mem_cons_of_mem _ h)
  have hown : s.vm.findClass RX2 = some m.cls := findClass_of_methodNamed B.named
  have hlocks := B.notSynchronized
  subst hsz
  have hD := hD0.self (sz := s.heap.size)
  have hA : ∀ q : Nat, s.heap.size ≤ q → va_A (w0_X2_put cA a0 a1 t t_bytes) s.heap.size q := fun q h => Or.inr h
  have hS : va_S (va_A (w0_X2_put cA a0 a1 t t_bytes) s.heap.size) s.heap s.heap [] := va_S.rf
  generalize va_A (w0_X2_put cA a0 a1 t t_bytes) s.heap.size = A at hA hD hS ⊢
  obtain ⟨Q, hQ⟩ : ∃ Q : State → Prop, Q = MQ below (va_Qv (fun (u : (Nat → Int32) × (Nat → Int32)) => u = out) (pst0 D cA A (w1_X2_put cA a0 a1)) A) args s 0 0 A := ⟨_, rfl⟩
  refine (?_ : W p l e rm_X2_put s m args below meth c s.heap [] 0 0 (MQ below (va_Qv (fun (u : (Nat → Int32) × (Nat → Int32)) => u = out) (pst0 D cA A (w1_X2_put cA a0 a1)) A) args s 0 0 A) (entryFrame m args 2))
  rw [← hQ]
  have hP : va_P D CL [(a0, e_X2 a1 t), (a1, eI cA 250 t_bytes)] s.heap := hP
  have hD : va_D A [(a0, e_X2 a1 t), (a1, eI cA 250 t_bytes)] := hD
  have B_34 : ∀ (t : Nat → Int32) (t_bytes : Nat → Int32) (H : Heap) (locs : List Loc) (ls : Array Slot), b_X2_put_34 fu t t_bytes = some out → va_P D CL [(a0, e_X2 a1 t), (a1, eI cA 250 t_bytes)] H → va_D A [(a0, e_X2 a1 t), (a1, eI cA 250 t_bytes)] → va_S A s.heap H locs → lv_has ls 2 [(0, .ref a0)] → W p l e rm_X2_put s m args below meth c H locs 0 0 Q (F0 m 34 ls []) := by
    intro  t t_bytes H locs ls hm hP hD hS hl
    unfold b_X2_put_34 at hm
    rw [hQ]
    exact W.vret hx hb hr (fun t9 ht hW => ⟨⟨(t, t_bytes), rfl, (Option.some.inj hm), by rw [ht]; exact hP, va_K.moved hW.alike hK, hD⟩, hS.F ht⟩) hS.2.2 dX2_put_34
  unfold m_X2_put at hm
  subst hargs
  have hl := lv_entry ([.ref a0, .int l1]) (n := 2) (Nat.le_of_ble_eq_true rfl)
  rw [lg_entry_eq]
  generalize (lg_sl ([.ref a0, .int l1]) ++ List.replicate (2 - (lg_sl ([.ref a0, .int l1])).length) Slot.unset).toArray = ls at hl ⊢
  have hl : lv_has ls 2 [(0, .ref a0), (1, .int l1)] := hl
  refine lv_aload_n hx hb dX2_put_0 rfl (lv_at hl 0 rfl) ?_
  refine va_get (D := D) (ci := 2) (v := .int (t 1)) (C := RX2) (T := TX2) (N := 5) hx hb htg inX2 hown hK hP 0 rfl rfl 1 (by decide) (htg _ q_1_116) (fun _ h9 => h9) rfl dX2_put_1 ?_
  refine lv_iconst (v := (0 : Int32)) hx hb dX2_put_4 (by decide) ?_
  refine lv_sipush (v := (249 : Int32)) hx hb dX2_put_5 (by decide) ?_
  obtain ⟨o1, ho2, hm⟩ := bd_s hm
  refine xr_i (wr := [(a0, e_X2 a1 t), (a1, eI cA 250 t_bytes)]) (wn := [(a0, e_X2 a1 t), (a1, eI cA 250 t_bytes)]) (va_runSN (As := [.int (t 1), .int (0 : Int32), .int (249 : Int32)]) (rest := []) ⟨hx, hb, hml, hown, htg⟩ (c_X5_isWithin l D cA _ fu (t 1) (0 : Int32) (249 : Int32) o1 ho2) ⟨va_cnB 3 htg (gU q_2_9) rfl rfl rfl (hN _ q_2_203) (htg _ q_1_1) hd_X5_isWithin.2 ⟨Nat.le_of_ble_eq_true rfl, Nat.le_of_ble_eq_true rfl⟩, htg _ q_2_8, trivial⟩ (xpS hN hK hP hD [] rfl (by decide)) rfl rfl hl.1 rfl (lv_room (Nat.le_of_ble_eq_true rfl)) dX2_put_8 ⟨Nat.zero_le _, Nat.zero_le _⟩) hP hD hS hA [] [0, 1] [0, 1] rfl rfl (by decide) (by decide) rfl (by decide) (fun H locs hP hD hS => ?_)
  refine lv_if_eq (tgt := 34) hx hb dX2_put_11 (by decide) (fun c3 => ?_) (fun c3 => ?_)
  · have hm := it_t c3 hm
    exact B_34 _ _ _ _ _ hm hP hD hS (lv_sub hl [0] rfl)
  · have hm := it_f c3 hm
    refine lv_aload_n hx hb dX2_put_14 rfl (lv_at hl 0 rfl) ?_
    refine va_get (D := D) (ci := 2) (v := .ref a1) (C := RX2) (T := TX2) (N := 5) hx hb htg inX2 hown hK hP 0 rfl rfl 0 (by decide) (htg _ q_1_115) (fun _ h9 => h9) rfl dX2_put_15 ?_
    refine lv_aload_n hx hb dX2_put_18 rfl (lv_at hl 0 rfl) ?_
    refine va_get (D := D) (ci := 2) (v := .int (t 1)) (C := RX2) (T := TX2) (N := 5) hx hb htg inX2 hown hK hP 0 rfl rfl 1 (by decide) (htg _ q_1_116) (fun _ h9 => h9) rfl dX2_put_19 ?_
    refine lv_iload_n hx hb dX2_put_22 rfl (lv_at hl 1 rfl) ?_
    obtain ⟨hi4, hm⟩ := gd_s hm
    refine va_iast hx hb hK hP hD hS 1 0 rfl rfl hi4 dX2_put_23 (fun H locs (hP : va_P D CL [(a0, e_X2 a1 t), (a1, eI cA 250 (upd t_bytes (t 1).toNatClampNeg l1))] H) (hD : va_D A [(a0, e_X2 a1 t), (a1, eI cA 250 (upd t_bytes (t 1).toNatClampNeg l1))]) hS => ?_)
    refine lv_aload_n hx hb dX2_put_24 rfl (lv_at hl 0 rfl) ?_
    refine lv_dup hx hb dX2_put_25 rfl ?_
    refine va_get (D := D) (ci := 2) (v := .int (t 1)) (C := RX2) (T := TX2) (N := 5) hx hb htg inX2 hown hK hP 0 rfl rfl 1 (by decide) (htg _ q_1_116) (fun _ h9 => h9) rfl dX2_put_26 ?_
    refine lv_iconst (v := (1 : Int32)) hx hb dX2_put_29 (by decide) ?_
    refine lv_iadd hx hb dX2_put_30 ?_
    refine va_put (D := D) (ci := 2) (v := .int (t 1 + (1 : Int32))) (ty := .int) (C := RX2) (T := TX2) (N := 5) hx hb htg inX2 tyX2 tyX2_ok nmX2 hown hK hP hD hS 0 rfl rfl 1 (by decide) (htg _ q_1_116) (fun _ h9 => h9) rfl (by decide +kernel) rfl rfl (Nat.le_of_ble_eq_true rfl) dX2_put_31 (fun H locs (hP : va_P D CL [(a0, e_X2 a1 (upd t 1 (t 1 + (1 : Int32)))), (a1, eI cA 250 (upd t_bytes (t 1).toNatClampNeg l1))] H) (hD : va_D A [(a0, e_X2 a1 (upd t 1 (t 1 + (1 : Int32)))), (a1, eI cA 250 (upd t_bytes (t 1).toNatClampNeg l1))]) hS => ?_)
    exact B_34 _ _ _ _ _ hm hP hD hS (lv_sub hl [0] rfl)
def b_X2_byteAt_29 (fu : Nat) (t : Nat → Int32) (t_bytes : Nat → Int32) (s0 : Int32) : Option (Int32 × Unit) :=
  some (s0, ())
def b_X2_byteAt_28 (fu : Nat) (t : Nat → Int32) (t_bytes : Nat → Int32)  : Option (Int32 × Unit) :=
  b_X2_byteAt_29 fu t t_bytes (-1 : Int32)
def m_X2_byteAt (fu : Nat) (t : Nat → Int32) (t_bytes : Nat → Int32) (l1 : Int32) : Option (Int32 × Unit) :=
  (if l1 < 0 then
    b_X2_byteAt_28 fu t t_bytes 
  else
    (if t 1 ≤ l1 then
      b_X2_byteAt_28 fu t t_bytes 
    else
      (if (250 : Int32) ≤ l1 then
        b_X2_byteAt_28 fu t t_bytes 
      else
        gd (inb l1 250) (
        b_X2_byteAt_29 fu t t_bytes (t_bytes l1.toNatClampNeg)))))
abbrev rm_X2_byteAt : Room := ({ frames := 0, cells := 0, slots := 0, locals := 0 } : Room)
abbrev w0_X2_byteAt (cA : Nat → ClassId) (a0 : Nat) (a1 : Nat) (t : Nat → Int32) (t_bytes : Nat → Int32) : va_W := [(a0, e_X2 a1 t), (a1, eI cA 250 t_bytes)]
abbrev w1_X2_byteAt (cA : Nat → ClassId) (a0 : Nat) (a1 : Nat) (t : Nat → Int32) (t_bytes : Nat → Int32) (u : Unit) : va_W := [(a0, e_X2 a1 t), (a1, eI cA 250 t_bytes)]
theorem hd_X2_byteAt : yX2_byteAt.cls = RX2 ∧ yX2_byteAt.cls ≠ "java/lang/invoke/MethodHandle" ∧ yX2_byteAt.cls ≠ "java/lang/invoke/VarHandle" ∧ (parseMethodDescriptor yX2_byteAt.desc).map (fun d => d.parameters.length) = some 1 := by decide +kernel
set_option maxHeartbeats 40000000 in
set_option maxRecDepth 100000 in
theorem c_X2_byteAt (l : Launch) (D : va_G) (cA : Nat → ClassId) (sz : Nat) (fu : Nat) (a0 : Nat) (a1 : Nat) (t : Nat → Int32) (t_bytes : Nat → Int32) (l1 : Int32) (out : Int32 × Unit) (hm : m_X2_byteAt fu t t_bytes l1 = some out) : MI l yX2_byteAt (wU yX2_byteAt cX2_byteAt 2 ((Option.some Jvm.ClassFile.FieldType.int))) rm_X2_byteAt D cA sz [.ref a0, .int l1] (w0_X2_byteAt cA a0 a1 t t_bytes) out (w1_X2_byteAt cA a0 a1 t t_bytes) := by
  refine Met.ofW (cc := cX2_byteAt) (maxL := 2) (ret := (Option.some Jvm.ClassFile.FieldType.int)) (by decide) rfl ?_
  intro p e s m args below meth c s₁ B hml hv
  obtain ⟨hargs, hsz, hP, hK, hD0, hN⟩ := hv
  have hx := B.exec
  have hb := B.bytes
  have hr := B.returns
  have htg : ∀ w ∈ gw, w.before args s = true := fun w h => atoms_spec (ws := wU yX2_byteAt cX2_byteAt 2 ((Option.some Jvm.ClassFile.FieldType.int))) B.pre w (List.mem_cons_of_mem _ h)
  have hown : s.vm.findClass RX2 = some m.cls := findClass_of_methodNamed B.named
  have hlocks := B.notSynchronized
  subst hsz
  have hD := hD0.self (sz := s.heap.size)
  have hA : ∀ q : Nat, s.heap.size ≤ q → va_A (w0_X2_byteAt cA a0 a1 t t_bytes) s.heap.size q := fun q h => Or.inr h
  have hS : va_S (va_A (w0_X2_byteAt cA a0 a1 t t_bytes) s.heap.size) s.heap s.heap [] := va_S.rf
  generalize va_A (w0_X2_byteAt cA a0 a1 t t_bytes) s.heap.size = A at hA hD hS ⊢
  obtain ⟨Q, hQ⟩ : ∃ Q : State → Prop, Q = MQ below (va_Qi (fun (r : Int32) (u : Unit) => (r, u) = out) (pst0 D cA A (w1_X2_byteAt cA a0 a1 t t_bytes)) A) args s 0 0 A := ⟨_, rfl⟩
  refine (?_ : W p l e rm_X2_byteAt s m args below meth c s.heap [] 0 0 (MQ below (va_Qi (fun (r : Int32) (u : Unit) => (r, u) = out) (pst0 D cA A (w1_X2_byteAt cA a0 a1 t t_bytes)) A) args s 0 0 A) (entryFrame m args 2))
  rw [← hQ]
  have hP : va_P D CL [(a0, e_X2 a1 t), (a1, eI cA 250 t_bytes)] s.heap := hP
  have hD : va_D A [(a0, e_X2 a1 t), (a1, eI cA 250 t_bytes)] := hD
  have B_29 : ∀ (s0 : Int32) (H : Heap) (locs : List Loc) (ls : Array Slot), b_X2_byteAt_29 fu t t_bytes s0 = some out → va_P D CL [(a0, e_X2 a1 t), (a1, eI cA 250 t_bytes)] H → va_D A [(a0, e_X2 a1 t), (a1, eI cA 250 t_bytes)] → va_S A s.heap H locs → lv_has ls 2 [(0, .ref a0)] → W p l e rm_X2_byteAt s m args below meth c H locs 0 0 Q (F0 m 29 ls [.int s0]) := by
    intro  s0 H locs ls hm hP hD hS hl
    unfold b_X2_byteAt_29 at hm
    rw [hQ]
    exact W.iret (v := s0) hx hb hr (fun t9 ht hW => ⟨⟨s0, (), rfl, (Option.some.inj hm), by rw [ht]; exact hP, va_K.moved hW.alike hK, hD⟩, hS.F ht⟩) hS.2.2 dX2_byteAt_29
  have B_28 : ∀  (H : Heap) (locs : List Loc) (ls : Array Slot), b_X2_byteAt_28 fu t t_bytes  = some out → va_P D CL [(a0, e_X2 a1 t), (a1, eI cA 250 t_bytes)] H → va_D A [(a0, e_X2 a1 t), (a1, eI cA 250 t_bytes)] → va_S A s.heap H locs → lv_has ls 2 [(0, .ref a0)] → W p l e rm_X2_byteAt s m args below meth c H locs 0 0 Q (F0 m 28 ls []) := by
    intro   H locs ls hm hP hD hS hl
    unfold b_X2_byteAt_28 at hm
    refine lv_iconst (v := (-1 : Int32)) hx hb dX2_byteAt_28 (by decide) ?_
    exact B_29 _ _ _ _ hm hP hD hS (lv_sub hl [0] rfl)
  unfold m_X2_byteAt at hm
  subst hargs
  have hl := lv_entry ([.ref a0, .int l1]) (n := 2) (Nat.le_of_ble_eq_true rfl)
  rw [lg_entry_eq]
  generalize (lg_sl ([.ref a0, .int l1]) ++ List.replicate (2 - (lg_sl ([.ref a0, .int l1])).length) Slot.unset).toArray = ls at hl ⊢
  have hl : lv_has ls 2 [(0, .ref a0), (1, .int l1)] := hl
  refine lv_iload_n hx hb dX2_byteAt_0 rfl (lv_at hl 1 rfl) ?_
  refine lv_if_lt (tgt := 28) hx hb dX2_byteAt_1 (by decide) (fun c1 => ?_) (fun c1 => ?_)
  · have hm := it_t c1 hm
    exact B_28  _ _ _ hm hP hD hS (lv_sub hl [0] rfl)
  · have hm := it_f c1 hm
    refine lv_iload_n hx hb dX2_byteAt_4 rfl (lv_at hl 1 rfl) ?_
    refine lv_aload_n hx hb dX2_byteAt_5 rfl (lv_at hl 0 rfl) ?_
    refine va_get (D := D) (ci := 2) (v := .int (t 1)) (C := RX2) (T := TX2) (N := 5) hx hb htg inX2 hown hK hP 0 rfl rfl 1 (by decide) (htg _ q_1_116) (fun _ h9 => h9) rfl dX2_byteAt_6 ?_
    refine lv_icmp_ge (tgt := 28) hx hb dX2_byteAt_9 (by decide) (fun c2 => ?_) (fun c2 => ?_)
    · have hm := it_t c2 hm
      exact B_28  _ _ _ hm hP hD hS (lv_sub hl [0] rfl)
    · have hm := it_f c2 hm
      refine lv_iload_n hx hb dX2_byteAt_12 rfl (lv_at hl 1 rfl) ?_
      refine lv_sipush (v := (250 : Int32)) hx hb dX2_byteAt_13 (by decide) ?_
      refine lv_icmp_ge (tgt := 28) hx hb dX2_byteAt_16 (by decide) (fun c3 => ?_) (fun c3 => ?_)
      · have hm := it_t c3 hm
        exact B_28  _ _ _ hm hP hD hS (lv_sub hl [0] rfl)
      · have hm := it_f c3 hm
        refine lv_aload_n hx hb dX2_byteAt_19 rfl (lv_at hl 0 rfl) ?_
        refine va_get (D := D) (ci := 2) (v := .ref a1) (C := RX2) (T := TX2) (N := 5) hx hb htg inX2 hown hK hP 0 rfl rfl 0 (by decide) (htg _ q_1_115) (fun _ h9 => h9) rfl dX2_byteAt_20 ?_
        refine lv_iload_n hx hb dX2_byteAt_23 rfl (lv_at hl 1 rfl) ?_
        obtain ⟨hi4, hm⟩ := gd_s hm
        refine va_iald hx hb hK hP 1 0 rfl rfl hi4 dX2_byteAt_24 ?_
        refine lv_goto (tgt := 29) hx hb dX2_byteAt_25 (by decide) ?_
        exact B_29 _ _ _ _ hm hP hD hS (lv_sub hl [0] rfl)
def b_X2_tokenOf_46 (fu : Nat) (s0 : Int32) : Option (Int32 × Unit) :=
  some (s0, ())
def b_X2_tokenOf_35 (fu : Nat) (l0 : Int32) : Option (Int32 × Unit) :=
  (if l0 = (59 : Int32) then
      b_X2_tokenOf_46 fu (3 : Int32)
    else
      b_X2_tokenOf_46 fu (4 : Int32))
def b_X2_tokenOf_21 (fu : Nat) (l0 : Int32) : Option (Int32 × Unit) :=
  (if l0 < (48 : Int32) then
      b_X2_tokenOf_35 fu l0
    else
      (if (57 : Int32) < l0 then
        b_X2_tokenOf_35 fu l0
      else
        some ((2 : Int32), ())))
def m_X2_tokenOf (fu : Nat) (l0 : Int32) : Option (Int32 × Unit) :=
  (if l0 = (-1 : Int32) then
    some ((0 : Int32), ())
  else
    (if l0 < (97 : Int32) then
      b_X2_tokenOf_21 fu l0
    else
      (if (122 : Int32) < l0 then
        b_X2_tokenOf_21 fu l0
      else
        some ((1 : Int32), ()))))
abbrev rm_X2_tokenOf : Room := ({ frames := 0, cells := 0, slots := 0, locals := 0 } : Room)
abbrev w0_X2_tokenOf (cA : Nat → ClassId)  : va_W := []
abbrev w1_X2_tokenOf (cA : Nat → ClassId)  (u : Unit) : va_W := []
theorem hd_X2_tokenOf : yX2_tokenOf.cls = RX2 ∧ yX2_tokenOf.cls ≠ "java/lang/invoke/MethodHandle" ∧ yX2_tokenOf.cls ≠ "java/lang/invoke/VarHandle" ∧ (parseMethodDescriptor yX2_tokenOf.desc).map (fun d => d.parameters.length) = some 1 := by decide +kernel
set_option maxHeartbeats 40000000 in
set_option maxRecDepth 100000 in
theorem c_X2_tokenOf (l : Launch) (D : va_G) (cA : Nat → ClassId) (sz : Nat) (fu : Nat) (l0 : Int32) (out : Int32 × Unit) (hm : m_X2_tokenOf fu l0 = some out) : MI l yX2_tokenOf (wU yX2_tokenOf cX2_tokenOf 1 ((Option.some Jvm.ClassFile.FieldType.int))) rm_X2_tokenOf D cA sz [.int l0] (w0_X2_tokenOf cA ) out (w1_X2_tokenOf cA ) := by
  refine Met.ofW (cc := cX2_tokenOf) (maxL := 1) (ret := (Option.some Jvm.ClassFile.FieldType.int)) (by decide) rfl ?_
  intro p e s m args below meth c s₁ B hml hv
  obtain ⟨hargs, hsz, hP, hK, hD0, hN⟩ := hv
  have hx := B.exec
  have hb := B.bytes
  have hr := B.returns
  have htg : ∀ w ∈ gw, w.before args s = true := fun w h => atoms_spec (ws := wU yX2_tokenOf cX2_tokenOf 1 ((Option.some Jvm.ClassFile.FieldType.int))) B.pre w (List.mem_cons_of_mem _ h)
  have hown : s.vm.findClass RX2 = some m.cls := findClass_of_methodNamed B.named
  have hlocks := B.notSynchronized
  subst hsz
  have hD := hD0.self (sz := s.heap.size)
  have hA : ∀ q : Nat, s.heap.size ≤ q → va_A (w0_X2_tokenOf cA ) s.heap.size q := fun q h => Or.inr h
  have hS : va_S (va_A (w0_X2_tokenOf cA ) s.heap.size) s.heap s.heap [] := va_S.rf
  generalize va_A (w0_X2_tokenOf cA ) s.heap.size = A at hA hD hS ⊢
  obtain ⟨Q, hQ⟩ : ∃ Q : State → Prop, Q = MQ below (va_Qi (fun (r : Int32) (u : Unit) => (r, u) = out) (pst0 D cA A (w1_X2_tokenOf cA )) A) args s 0 0 A := ⟨_, rfl⟩
  refine (?_ : W p l e rm_X2_tokenOf s m args below meth c s.heap [] 0 0 (MQ below (va_Qi (fun (r : Int32) (u : Unit) => (r, u) = out) (pst0 D cA A (w1_X2_tokenOf cA )) A) args s 0 0 A) (entryFrame m args 1))
  rw [← hQ]
  have hP : va_P D CL [] s.heap := hP
  have hD : va_D A [] := hD
  have B_46 : ∀ (s0 : Int32) (H : Heap) (locs : List Loc) (ls : Array Slot), b_X2_tokenOf_46 fu s0 = some out → va_P D CL [] H → va_D A [] → va_S A s.heap H locs → lv_has ls 1 [] → W p l e rm_X2_tokenOf s m args below meth c H locs 0 0 Q (F0 m 46 ls [.int s0]) := by
    intro  s0 H locs ls hm hP hD hS hl
    unfold b_X2_tokenOf_46 at hm
    rw [hQ]
    exact W.iret (v := s0) hx hb hr (fun t9 ht hW => ⟨⟨s0, (), rfl, (Option.some.inj hm), by rw [ht]; exact hP, va_K.moved hW.alike hK, hD⟩, hS.F ht⟩) hS.2.2 dX2_tokenOf_46
  have B_35 : ∀ (l0 : Int32) (H : Heap) (locs : List Loc) (ls : Array Slot), b_X2_tokenOf_35 fu l0 = some out → va_P D CL [] H → va_D A [] → va_S A s.heap H locs → lv_has ls 1 [(0, .int l0)] → W p l e rm_X2_tokenOf s m args below meth c H locs 0 0 Q (F0 m 35 ls []) := by
    intro  l0 H locs ls hm hP hD hS hl
    unfold b_X2_tokenOf_35 at hm
    refine lv_iload_n hx hb dX2_tokenOf_35 rfl (lv_at hl 0 rfl) ?_
    refine lv_bipush (v := (59 : Int32)) hx hb dX2_tokenOf_36 (by decide) ?_
    refine lv_icmp_ne (tgt := 45) hx hb dX2_tokenOf_38 (by decide) (fun c1 => ?_) (fun c1 => ?_)
    · have hm := it_f c1 hm
      refine lv_iconst (v := (4 : Int32)) hx hb dX2_tokenOf_45 (by decide) ?_
      exact B_46 _ _ _ _ hm hP hD hS (lv_sub hl [] rfl)
    · have hm := it_t c1 hm
      refine lv_iconst (v := (3 : Int32)) hx hb dX2_tokenOf_41 (by decide) ?_
      refine lv_goto (tgt := 46) hx hb dX2_tokenOf_42 (by decide) ?_
      exact B_46 _ _ _ _ hm hP hD hS (lv_sub hl [] rfl)
  have B_21 : ∀ (l0 : Int32) (H : Heap) (locs : List Loc) (ls : Array Slot), b_X2_tokenOf_21 fu l0 = some out → va_P D CL [] H → va_D A [] → va_S A s.heap H locs → lv_has ls 1 [(0, .int l0)] → W p l e rm_X2_tokenOf s m args below meth c H locs 0 0 Q (F0 m 21 ls []) := by
    intro  l0 H locs ls hm hP hD hS hl
    unfold b_X2_tokenOf_21 at hm
    refine lv_iload_n hx hb dX2_tokenOf_21 rfl (lv_at hl 0 rfl) ?_
    refine lv_bipush (v := (48 : Int32)) hx hb dX2_tokenOf_22 (by decide) ?_
    refine lv_icmp_lt (tgt := 35) hx hb dX2_tokenOf_24 (by decide) (fun c2 => ?_) (fun c2 => ?_)
    · have hm := it_t c2 hm
      exact B_35 _ _ _ _ hm hP hD hS (lv_sub hl [0] rfl)
    · have hm := it_f c2 hm
      refine lv_iload_n hx hb dX2_tokenOf_27 rfl (lv_at hl 0 rfl) ?_
      refine lv_bipush (v := (57 : Int32)) hx hb dX2_tokenOf_28 (by decide) ?_
      refine lv_icmp_gt (tgt := 35) hx hb dX2_tokenOf_30 (by decide) (fun c3 => ?_) (fun c3 => ?_)
      · have hm := it_t c3 hm
        exact B_35 _ _ _ _ hm hP hD hS (lv_sub hl [0] rfl)
      · have hm := it_f c3 hm
        refine lv_iconst (v := (2 : Int32)) hx hb dX2_tokenOf_33 (by decide) ?_
        rw [hQ]
        exact W.iret (v := (2 : Int32)) hx hb hr (fun t9 ht hW => ⟨⟨(2 : Int32), (), rfl, (Option.some.inj hm), by rw [ht]; exact hP, va_K.moved hW.alike hK, hD⟩, hS.F ht⟩) hS.2.2 dX2_tokenOf_34
  unfold m_X2_tokenOf at hm
  subst hargs
  have hl := lv_entry ([.int l0]) (n := 1) (Nat.le_of_ble_eq_true rfl)
  rw [lg_entry_eq]
  generalize (lg_sl ([.int l0]) ++ List.replicate (1 - (lg_sl ([.int l0])).length) Slot.unset).toArray = ls at hl ⊢
  have hl : lv_has ls 1 [(0, .int l0)] := hl
  refine lv_iload_n hx hb dX2_tokenOf_0 rfl (lv_at hl 0 rfl) ?_
  refine lv_iconst (v := (-1 : Int32)) hx hb dX2_tokenOf_1 (by decide) ?_
  refine lv_icmp_ne (tgt := 7) hx hb dX2_tokenOf_2 (by decide) (fun c4 => ?_) (fun c4 => ?_)
  · have hm := it_f c4 hm
    refine lv_iload_n hx hb dX2_tokenOf_7 rfl (lv_at hl 0 rfl) ?_
    refine lv_bipush (v := (97 : Int32)) hx hb dX2_tokenOf_8 (by decide) ?_
    refine lv_icmp_lt (tgt := 21) hx hb dX2_tokenOf_10 (by decide) (fun c5 => ?_) (fun c5 => ?_)
    · have hm := it_t c5 hm
      exact B_21 _ _ _ _ hm hP hD hS (lv_sub hl [0] rfl)
    · have hm := it_f c5 hm
      refine lv_iload_n hx hb dX2_tokenOf_13 rfl (lv_at hl 0 rfl) ?_
      refine lv_bipush (v := (122 : Int32)) hx hb dX2_tokenOf_14 (by decide) ?_
      refine lv_icmp_gt (tgt := 21) hx hb dX2_tokenOf_16 (by decide) (fun c6 => ?_) (fun c6 => ?_)
      · have hm := it_t c6 hm
        exact B_21 _ _ _ _ hm hP hD hS (lv_sub hl [0] rfl)
      · have hm := it_f c6 hm
        refine lv_iconst (v := (1 : Int32)) hx hb dX2_tokenOf_19 (by decide) ?_
        rw [hQ]
        exact W.iret (v := (1 : Int32)) hx hb hr (fun t9 ht hW => ⟨⟨(1 : Int32), (), rfl, (Option.some.inj hm), by rw [ht]; exact hP, va_K.moved hW.alike hK, hD⟩, hS.F ht⟩) hS.2.2 dX2_tokenOf_20
  · have hm := it_t c4 hm
    refine lv_iconst (v := (0 : Int32)) hx hb dX2_tokenOf_5 (by decide) ?_
    rw [hQ]
    exact W.iret (v := (0 : Int32)) hx hb hr (fun t9 ht hW => ⟨⟨(0 : Int32), (), rfl, (Option.some.inj hm), by rw [ht]; exact hP, va_K.moved hW.alike hK, hD⟩, hS.F ht⟩) hS.2.2 dX2_tokenOf_6
def b_X2_step_130 (fu : Nat) (t_bytes : Nat → Int32) (t : Nat → Int32) : Option ((Nat → Int32)) :=
  some t
def b_X2_step_89 (fu : Nat) (t_bytes : Nat → Int32) (k_89 : (Int32 × (Nat → Int32)) → Option ((Nat → Int32))) (x : Int32 × (Nat → Int32)) : Option ((Nat → Int32)) :=
  (if (250 : Int32) ≤ x.1 then
        b_X2_step_130 fu t_bytes x.2
      else
        (m_X2_byteAt fu x.2 t_bytes (x.2 3)).bind fun o2 =>
        (m_X2_tokenOf fu o2.1).bind fun o4 =>
        (if o4.1 = x.2 4 then
          k_89 ((x.1 + (1 : Int32)), (upd x.2 3 (x.2 3 + (1 : Int32))))
        else
          b_X2_step_130 fu t_bytes x.2))
def b_X2_step_87 (fu : Nat) (t_bytes : Nat → Int32) (t : Nat → Int32) : Option ((Nat → Int32)) :=
  lfix (b_X2_step_89 fu t_bytes) fu ((0 : Int32), t)
def b_X2_step_46 (fu : Nat) (t_bytes : Nat → Int32) (t : Nat → Int32) : Option ((Nat → Int32)) :=
  (m_X2_byteAt fu t t_bytes (t 2)).bind fun o7 =>
    (m_X2_tokenOf fu o7.1).bind fun o9 =>
    (if o9.1 = (1 : Int32) then
      b_X2_step_87 fu t_bytes (upd (upd t 4 o9.1) 3 (t 2 + (1 : Int32)))
    else
      (if o9.1 = (2 : Int32) then
        b_X2_step_87 fu t_bytes (upd (upd t 4 o9.1) 3 (t 2 + (1 : Int32)))
      else
        b_X2_step_130 fu t_bytes (upd (upd t 4 o9.1) 3 (t 2 + (1 : Int32)))))
def b_X2_step_10 (fu : Nat) (t_bytes : Nat → Int32) (k_10 : (Int32 × (Nat → Int32)) → Option ((Nat → Int32))) (x : Int32 × (Nat → Int32)) : Option ((Nat → Int32)) :=
  (if (250 : Int32) ≤ x.1 then
        b_X2_step_46 fu t_bytes x.2
      else
        (m_X2_byteAt fu x.2 t_bytes (x.2 2)).bind fun o14 =>
        (if o14.1 = (32 : Int32) then
          k_10 ((x.1 + (1 : Int32)), (upd x.2 2 (x.2 2 + (1 : Int32))))
        else
          b_X2_step_46 fu t_bytes x.2))
def m_X2_step (fu : Nat) (t : Nat → Int32) (t_bytes : Nat → Int32) : Option ((Nat → Int32)) :=
  lfix (b_X2_step_10 fu t_bytes) fu ((0 : Int32), (upd t 2 (t 3)))
abbrev rm_X2_step : Room := ({ frames := 1, cells := 0, slots := 0, locals := 21 } : Room)
abbrev w0_X2_step (cA : Nat → ClassId) (a0 : Nat) (a1 : Nat) (t : Nat → Int32) (t_bytes : Nat → Int32) : va_W := [(a0, e_X2 a1 t), (a1, eI cA 250 t_bytes)]
abbrev w1_X2_step (cA : Nat → ClassId) (a0 : Nat) (a1 : Nat) (t_bytes : Nat → Int32) (u : (Nat → Int32)) : va_W := [(a0, e_X2 a1 u), (a1, eI cA 250 t_bytes)]
theorem hd_X2_step : yX2_step.cls = RX2 ∧ yX2_step.cls ≠ "java/lang/invoke/MethodHandle" ∧ yX2_step.cls ≠ "java/lang/invoke/VarHandle" ∧ (parseMethodDescriptor yX2_step.desc).map (fun d => d.parameters.length) = some 0 := by decide +kernel
set_option maxHeartbeats 40000000 in
set_option maxRecDepth 100000 in
theorem c_X2_step (l : Launch) (D : va_G) (cA : Nat → ClassId) (sz : Nat) (fu : Nat) (a0 : Nat) (a1 : Nat) (t : Nat → Int32) (t_bytes : Nat → Int32) (out : (Nat → Int32)) (hm : m_X2_step fu t t_bytes = some out) : MV l yX2_step (wU yX2_step cX2_step 2 ((Option.none : Option Jvm.ClassFile.FieldType))) rm_X2_step D cA sz [.ref a0] (w0_X2_step cA a0 a1 t t_bytes) out (w1_X2_step cA a0 a1 t_bytes) := by
  refine Met.ofW (cc := cX2_step) (maxL := 2) (ret := (Option.none : Option Jvm.ClassFile.FieldType)) (by decide) rfl ?_
  intro p e s m args below meth c s₁ B hml hv
  obtain ⟨hargs, hsz, hP, hK, hD0, hN⟩ := hv
  have hx := B.exec
  have hb := B.bytes
  have hr := B.returns
  have htg : ∀ w ∈ gw, w.before args s = true := fun w h => atoms_spec (ws := wU yX2_step cX2_step 2 ((Option.none : Option Jvm.ClassFile.FieldType))) B.pre w (List.mem_cons_of_mem _ h)
  have hown : s.vm.findClass RX2 = some m.cls := findClass_of_methodNamed B.named
  have hlocks := B.notSynchronized
  subst hsz
  have hD := hD0.self (sz := s.heap.size)
  have hA : ∀ q : Nat, s.heap.size ≤ q → va_A (w0_X2_step cA a0 a1 t t_bytes) s.heap.size q := fun q h => Or.inr h
  have hS : va_S (va_A (w0_X2_step cA a0 a1 t t_bytes) s.heap.size) s.heap s.heap [] := va_S.rf
  generalize va_A (w0_X2_step cA a0 a1 t t_bytes) s.heap.size = A at hA hD hS ⊢
  obtain ⟨Q, hQ⟩ : ∃ Q : State → Prop, Q = MQ below (va_Qv (fun (u : (Nat → Int32)) => u = out) (pst0 D cA A (w1_X2_step cA a0 a1 t_bytes)) A) args s 0 0 A := ⟨_, rfl⟩
  refine (?_ : W p l e rm_X2_step s m args below meth c s.heap [] 0 0 (MQ below (va_Qv (fun (u : (Nat → Int32)) => u = out) (pst0 D cA A (w1_X2_step cA a0 a1 t_bytes)) A) args s 0 0 A) (entryFrame m args 2))
  rw [← hQ]
  have hP : va_P D CL [(a0, e_X2 a1 t), (a1, eI cA 250 t_bytes)] s.heap := hP
  have hD : va_D A [(a0, e_X2 a1 t), (a1, eI cA 250 t_bytes)] := hD
  have B_130 : ∀ (t : Nat → Int32) (H : Heap) (locs : List Loc) (ls : Array Slot), b_X2_step_130 fu t_bytes t = some out → va_P D CL [(a0, e_X2 a1 t), (a1, eI cA 250 t_bytes)] H → va_D A [(a0, e_X2 a1 t), (a1, eI cA 250 t_bytes)] → va_S A s.heap H locs → lv_has ls 2 [(0, .ref a0)] → W p l e rm_X2_step s m args below meth c H locs 0 0 Q (F0 m 130 ls []) := by
    intro  t H locs ls hm hP hD hS hl
    unfold b_X2_step_130 at hm
    rw [hQ]
    exact W.vret hx hb hr (fun t9 ht hW => ⟨⟨t, rfl, (Option.some.inj hm), by rw [ht]; exact hP, va_K.moved hW.alike hK, hD⟩, hS.F ht⟩) hS.2.2 dX2_step_130
  have B_89 : ∀ (n : Nat) (x : Int32 × (Nat → Int32)) (H : Heap) (locs : List Loc) (ls : Array Slot), lfix (b_X2_step_89 fu t_bytes) n x = some out → va_P D CL [(a0, e_X2 a1 x.2), (a1, eI cA 250 t_bytes)] H → va_D A [(a0, e_X2 a1 x.2), (a1, eI cA 250 t_bytes)] → va_S A s.heap H locs → lv_has ls 2 [(0, .ref a0), (1, .int x.1)] → W p l e rm_X2_step s m args below meth c H locs 0 0 Q (F0 m 89 ls []) := by
    intro  n
    induction n with
    | zero => intro x H locs ls hm; cases (show none = some out from hm)
    | succ n HK_89 =>
      intro x H locs ls hm hP hD hS hl
      replace hm : b_X2_step_89 fu t_bytes (lfix (b_X2_step_89 fu t_bytes) n) x = some out := hm
      unfold b_X2_step_89 at hm
      refine lv_iload_n hx hb dX2_step_89 rfl (lv_at hl 1 rfl) ?_
      refine lv_sipush (v := (250 : Int32)) hx hb dX2_step_90 (by decide) ?_
      refine lv_icmp_ge (tgt := 130) hx hb dX2_step_93 (by decide) (fun c1 => ?_) (fun c1 => ?_)
      · have hm := it_t c1 hm
        exact B_130 _ _ _ _ hm hP hD hS (lv_sub hl [0] rfl)
      · have hm := it_f c1 hm
        refine lv_aload_n hx hb dX2_step_96 rfl (lv_at hl 0 rfl) ?_
        refine lv_aload_n hx hb dX2_step_97 rfl (lv_at hl 0 rfl) ?_
        refine va_get (D := D) (ci := 2) (v := .int (x.2 3)) (C := RX2) (T := TX2) (N := 5) hx hb htg inX2 hown hK hP 0 rfl rfl 3 (by decide) (htg _ q_1_120) (fun _ h9 => h9) rfl dX2_step_98 ?_
        obtain ⟨o2, ho3, hm⟩ := bd_s hm
        refine xr_i (wr := []) (wn := [(a0, e_X2 a1 x.2), (a1, eI cA 250 t_bytes)]) (va_runV (As := [.int (x.2 3)]) (rest := []) ⟨hx, hb, hml, hown, htg⟩ (c_X2_byteAt l D cA _ fu a0 a1 x.2 t_bytes (x.2 3) o2 ho3) (cwV 1 htg (gV q_2_224 q_2_226 q_p3_1 q_1_5 q_2_227) rfl rfl rfl hd_X2_byteAt ⟨Nat.le_of_ble_eq_true rfl, Nat.le_of_ble_eq_true rfl⟩) (xpV hN hK hP hD [0, 1] rfl (by decide) rfl rfl) rfl rfl hl.1 rfl (lv_room (Nat.le_of_ble_eq_true rfl)) dX2_step_101 ⟨Nat.zero_le _, Nat.zero_le _⟩) hP hD hS hA [0, 1] [] [0, 1] rfl rfl (by decide) (by decide) rfl (by decide) (fun H locs hP hD hS => ?_)
        obtain ⟨o4, ho5, hm⟩ := bd_s hm
        refine xr_i (wr := [(a0, e_X2 a1 x.2), (a1, eI cA 250 t_bytes)]) (wn := [(a0, e_X2 a1 x.2), (a1, eI cA 250 t_bytes)]) (va_runS (As := [.int o2.1]) (rest := []) ⟨hx, hb, hml, hown, htg⟩ (c_X2_tokenOf l D cA _ fu o2.1 o4 ho5) (cwS 1 htg (gS q_2_228 q_2_229 q_1_5 q_2_230) rfl rfl rfl hd_X2_tokenOf ⟨Nat.le_of_ble_eq_true rfl, Nat.le_of_ble_eq_true rfl⟩) (xpS hN hK hP hD [] rfl (by decide)) rfl rfl hl.1 rfl (lv_room (Nat.le_of_ble_eq_true rfl)) dX2_step_104 ⟨Nat.zero_le _, Nat.zero_le _⟩) hP hD hS hA [] [0, 1] [0, 1] rfl rfl (by decide) (by decide) rfl (by decide) (fun H locs hP hD hS => ?_)
        refine lv_aload_n hx hb dX2_step_107 rfl (lv_at hl 0 rfl) ?_
        refine va_get (D := D) (ci := 2) (v := .int (x.2 4)) (C := RX2) (T := TX2) (N := 5) hx hb htg inX2 hown hK hP 0 rfl rfl 4 (by decide) (htg _ q_1_121) (fun _ h9 => h9) rfl dX2_step_108 ?_
        refine lv_icmp_ne (tgt := 130) hx hb dX2_step_111 (by decide) (fun c6 => ?_) (fun c6 => ?_)
        · have hm := it_f c6 hm
          exact B_130 _ _ _ _ hm hP hD hS (lv_sub hl [0] rfl)
        · have hm := it_t c6 hm
          refine lv_aload_n hx hb dX2_step_114 rfl (lv_at hl 0 rfl) ?_
          refine lv_dup hx hb dX2_step_115 rfl ?_
          refine va_get (D := D) (ci := 2) (v := .int (x.2 3)) (C := RX2) (T := TX2) (N := 5) hx hb htg inX2 hown hK hP 0 rfl rfl 3 (by decide) (htg _ q_1_120) (fun _ h9 => h9) rfl dX2_step_116 ?_
          refine lv_iconst (v := (1 : Int32)) hx hb dX2_step_119 (by decide) ?_
          refine lv_iadd hx hb dX2_step_120 ?_
          refine va_put (D := D) (ci := 2) (v := .int (x.2 3 + (1 : Int32))) (ty := .int) (C := RX2) (T := TX2) (N := 5) hx hb htg inX2 tyX2 tyX2_ok nmX2 hown hK hP hD hS 0 rfl rfl 3 (by decide) (htg _ q_1_120) (fun _ h9 => h9) rfl (by decide +kernel) rfl rfl (Nat.le_of_ble_eq_true rfl) dX2_step_121 (fun H locs (hP : va_P D CL [(a0, e_X2 a1 (upd x.2 3 (x.2 3 + (1 : Int32)))), (a1, eI cA 250 t_bytes)] H) (hD : va_D A [(a0, e_X2 a1 (upd x.2 3 (x.2 3 + (1 : Int32)))), (a1, eI cA 250 t_bytes)]) hS => ?_)
          refine lv_iinc (v := (x.1 + (1 : Int32))) (lv' := [(1, .int (x.1 + (1 : Int32))), (0, .ref a0)]) hx hb dX2_step_124 hl (k := 1) rfl rfl (by decide) rfl (fun ls hl => ?_)
          refine lv_goto (tgt := 89) hx hb dX2_step_127 (by decide) ?_
          exact HK_89 _ _ _ _ hm hP hD hS (lv_sub hl [1, 0] rfl)
  have B_87 : ∀ (t : Nat → Int32) (H : Heap) (locs : List Loc) (ls : Array Slot), b_X2_step_87 fu t_bytes t = some out → va_P D CL [(a0, e_X2 a1 t), (a1, eI cA 250 t_bytes)] H → va_D A [(a0, e_X2 a1 t), (a1, eI cA 250 t_bytes)] → va_S A s.heap H locs → lv_has ls 2 [(0, .ref a0)] → W p l e rm_X2_step s m args below meth c H locs 0 0 Q (F0 m 87 ls []) := by
    intro  t H locs ls hm hP hD hS hl
    unfold b_X2_step_87 at hm
    refine lv_iconst (v := (0 : Int32)) hx hb dX2_step_87 (by decide) ?_
    refine lv_istore_n (lv' := [(1, .int (0 : Int32)), (0, .ref a0)]) hx hb dX2_step_88 rfl hl (by decide) rfl (fun ls hl => ?_)
    exact B_89 fu _ _ _ _ hm hP hD hS (lv_sub hl [1, 0] rfl)
  have B_46 : ∀ (t : Nat → Int32) (H : Heap) (locs : List Loc) (ls : Array Slot), b_X2_step_46 fu t_bytes t = some out → va_P D CL [(a0, e_X2 a1 t), (a1, eI cA 250 t_bytes)] H → va_D A [(a0, e_X2 a1 t), (a1, eI cA 250 t_bytes)] → va_S A s.heap H locs → lv_has ls 2 [(0, .ref a0)] → W p l e rm_X2_step s m args below meth c H locs 0 0 Q (F0 m 46 ls []) := by
    intro  t H locs ls hm hP hD hS hl
    unfold b_X2_step_46 at hm
    refine lv_aload_n hx hb dX2_step_46 rfl (lv_at hl 0 rfl) ?_
    refine lv_aload_n hx hb dX2_step_47 rfl (lv_at hl 0 rfl) ?_
    refine lv_aload_n hx hb dX2_step_48 rfl (lv_at hl 0 rfl) ?_
    refine va_get (D := D) (ci := 2) (v := .int (t 2)) (C := RX2) (T := TX2) (N := 5) hx hb htg inX2 hown hK hP 0 rfl rfl 2 (by decide) (htg _ q_1_118) (fun _ h9 => h9) rfl dX2_step_49 ?_
    obtain ⟨o7, ho8, hm⟩ := bd_s hm
    refine xr_i (wr := []) (wn := [(a0, e_X2 a1 t), (a1, eI cA 250 t_bytes)]) (va_runV (As := [.int (t 2)]) (rest := [.ref a0]) ⟨hx, hb, hml, hown, htg⟩ (c_X2_byteAt l D cA _ fu a0 a1 t t_bytes (t 2) o7 ho8) (cwV 1 htg (gV q_2_224 q_2_226 q_p3_1 q_1_5 q_2_227) rfl rfl rfl hd_X2_byteAt ⟨Nat.le_of_ble_eq_true rfl, Nat.le_of_ble_eq_true rfl⟩) (xpV hN hK hP hD [0, 1] rfl (by decide) rfl rfl) rfl rfl hl.1 rfl (lv_room (Nat.le_of_ble_eq_true rfl)) dX2_step_52 ⟨Nat.zero_le _, Nat.zero_le _⟩) hP hD hS hA [0, 1] [] [0, 1] rfl rfl (by decide) (by decide) rfl (by decide) (fun H locs hP hD hS => ?_)
    obtain ⟨o9, ho10, hm⟩ := bd_s hm
    refine xr_i (wr := [(a0, e_X2 a1 t), (a1, eI cA 250 t_bytes)]) (wn := [(a0, e_X2 a1 t), (a1, eI cA 250 t_bytes)]) (va_runS (As := [.int o7.1]) (rest := [.ref a0]) ⟨hx, hb, hml, hown, htg⟩ (c_X2_tokenOf l D cA _ fu o7.1 o9 ho10) (cwS 1 htg (gS q_2_228 q_2_229 q_1_5 q_2_230) rfl rfl rfl hd_X2_tokenOf ⟨Nat.le_of_ble_eq_true rfl, Nat.le_of_ble_eq_true rfl⟩) (xpS hN hK hP hD [] rfl (by decide)) rfl rfl hl.1 rfl (lv_room (Nat.le_of_ble_eq_true rfl)) dX2_step_55 ⟨Nat.zero_le _, Nat.zero_le _⟩) hP hD hS hA [] [0, 1] [0, 1] rfl rfl (by decide) (by decide) rfl (by decide) (fun H locs hP hD hS => ?_)
    refine va_put (D := D) (ci := 2) (v := .int o9.1) (ty := .int) (C := RX2) (T := TX2) (N := 5) hx hb htg inX2 tyX2 tyX2_ok nmX2 hown hK hP hD hS 0 rfl rfl 4 (by decide) (htg _ q_1_121) (fun _ h9 => h9) rfl (by decide +kernel) rfl rfl (Nat.le_of_ble_eq_true rfl) dX2_step_58 (fun H locs (hP : va_P D CL [(a0, e_X2 a1 (upd t 4 o9.1)), (a1, eI cA 250 t_bytes)] H) (hD : va_D A [(a0, e_X2 a1 (upd t 4 o9.1)), (a1, eI cA 250 t_bytes)]) hS => ?_)
    refine lv_aload_n hx hb dX2_step_61 rfl (lv_at hl 0 rfl) ?_
    refine lv_aload_n hx hb dX2_step_62 rfl (lv_at hl 0 rfl) ?_
    refine va_get (D := D) (ci := 2) (v := .int (t 2)) (C := RX2) (T := TX2) (N := 5) hx hb htg inX2 hown hK hP 0 rfl rfl 2 (by decide) (htg _ q_1_118) (fun _ h9 => h9) rfl dX2_step_63 ?_
    refine lv_iconst (v := (1 : Int32)) hx hb dX2_step_66 (by decide) ?_
    refine lv_iadd hx hb dX2_step_67 ?_
    refine va_put (D := D) (ci := 2) (v := .int (t 2 + (1 : Int32))) (ty := .int) (C := RX2) (T := TX2) (N := 5) hx hb htg inX2 tyX2 tyX2_ok nmX2 hown hK hP hD hS 0 rfl rfl 3 (by decide) (htg _ q_1_120) (fun _ h9 => h9) rfl (by decide +kernel) rfl rfl (Nat.le_of_ble_eq_true rfl) dX2_step_68 (fun H locs (hP : va_P D CL [(a0, e_X2 a1 (upd (upd t 4 o9.1) 3 (t 2 + (1 : Int32)))), (a1, eI cA 250 t_bytes)] H) (hD : va_D A [(a0, e_X2 a1 (upd (upd t 4 o9.1) 3 (t 2 + (1 : Int32)))), (a1, eI cA 250 t_bytes)]) hS => ?_)
    refine lv_aload_n hx hb dX2_step_71 rfl (lv_at hl 0 rfl) ?_
    refine va_get (D := D) (ci := 2) (v := .int o9.1) (C := RX2) (T := TX2) (N := 5) hx hb htg inX2 hown hK hP 0 rfl rfl 4 (by decide) (htg _ q_1_121) (fun _ h9 => h9) rfl dX2_step_72 ?_
    refine lv_iconst (v := (1 : Int32)) hx hb dX2_step_75 (by decide) ?_
    refine lv_icmp_eq (tgt := 87) hx hb dX2_step_76 (by decide) (fun c11 => ?_) (fun c11 => ?_)
    · have hm := it_t c11 hm
      exact B_87 _ _ _ _ hm hP hD hS (lv_sub hl [0] rfl)
    · have hm := it_f c11 hm
      refine lv_aload_n hx hb dX2_step_79 rfl (lv_at hl 0 rfl) ?_
      refine va_get (D := D) (ci := 2) (v := .int o9.1) (C := RX2) (T := TX2) (N := 5) hx hb htg inX2 hown hK hP 0 rfl rfl 4 (by decide) (htg _ q_1_121) (fun _ h9 => h9) rfl dX2_step_80 ?_
      refine lv_iconst (v := (2 : Int32)) hx hb dX2_step_83 (by decide) ?_
      refine lv_icmp_ne (tgt := 130) hx hb dX2_step_84 (by decide) (fun c12 => ?_) (fun c12 => ?_)
      · have hm := it_f c12 hm
        exact B_130 _ _ _ _ hm hP hD hS (lv_sub hl [0] rfl)
      · have hm := it_t c12 hm
        exact B_87 _ _ _ _ hm hP hD hS (lv_sub hl [0] rfl)
  have B_10 : ∀ (n : Nat) (x : Int32 × (Nat → Int32)) (H : Heap) (locs : List Loc) (ls : Array Slot), lfix (b_X2_step_10 fu t_bytes) n x = some out → va_P D CL [(a0, e_X2 a1 x.2), (a1, eI cA 250 t_bytes)] H → va_D A [(a0, e_X2 a1 x.2), (a1, eI cA 250 t_bytes)] → va_S A s.heap H locs → lv_has ls 2 [(0, .ref a0), (1, .int x.1)] → W p l e rm_X2_step s m args below meth c H locs 0 0 Q (F0 m 10 ls []) := by
    intro  n
    induction n with
    | zero => intro x H locs ls hm; cases (show none = some out from hm)
    | succ n HK_10 =>
      intro x H locs ls hm hP hD hS hl
      replace hm : b_X2_step_10 fu t_bytes (lfix (b_X2_step_10 fu t_bytes) n) x = some out := hm
      unfold b_X2_step_10 at hm
      refine lv_iload_n hx hb dX2_step_10 rfl (lv_at hl 1 rfl) ?_
      refine lv_sipush (v := (250 : Int32)) hx hb dX2_step_11 (by decide) ?_
      refine lv_icmp_ge (tgt := 46) hx hb dX2_step_14 (by decide) (fun c13 => ?_) (fun c13 => ?_)
      · have hm := it_t c13 hm
        exact B_46 _ _ _ _ hm hP hD hS (lv_sub hl [0] rfl)
      · have hm := it_f c13 hm
        refine lv_aload_n hx hb dX2_step_17 rfl (lv_at hl 0 rfl) ?_
        refine lv_aload_n hx hb dX2_step_18 rfl (lv_at hl 0 rfl) ?_
        refine va_get (D := D) (ci := 2) (v := .int (x.2 2)) (C := RX2) (T := TX2) (N := 5) hx hb htg inX2 hown hK hP 0 rfl rfl 2 (by decide) (htg _ q_1_118) (fun _ h9 => h9) rfl dX2_step_19 ?_
        obtain ⟨o14, ho15, hm⟩ := bd_s hm
        refine xr_i (wr := []) (wn := [(a0, e_X2 a1 x.2), (a1, eI cA 250 t_bytes)]) (va_runV (As := [.int (x.2 2)]) (rest := []) ⟨hx, hb, hml, hown, htg⟩ (c_X2_byteAt l D cA _ fu a0 a1 x.2 t_bytes (x.2 2) o14 ho15) (cwV 1 htg (gV q_2_224 q_2_226 q_p3_1 q_1_5 q_2_227) rfl rfl rfl hd_X2_byteAt ⟨Nat.le_of_ble_eq_true rfl, Nat.le_of_ble_eq_true rfl⟩) (xpV hN hK hP hD [0, 1] rfl (by decide) rfl rfl) rfl rfl hl.1 rfl (lv_room (Nat.le_of_ble_eq_true rfl)) dX2_step_22 ⟨Nat.zero_le _, Nat.zero_le _⟩) hP hD hS hA [0, 1] [] [0, 1] rfl rfl (by decide) (by decide) rfl (by decide) (fun H locs hP hD hS => ?_)
        refine lv_bipush (v := (32 : Int32)) hx hb dX2_step_25 (by decide) ?_
        refine lv_icmp_ne (tgt := 46) hx hb dX2_step_27 (by decide) (fun c16 => ?_) (fun c16 => ?_)
        · have hm := it_f c16 hm
          exact B_46 _ _ _ _ hm hP hD hS (lv_sub hl [0] rfl)
        · have hm := it_t c16 hm
          refine lv_aload_n hx hb dX2_step_30 rfl (lv_at hl 0 rfl) ?_
          refine lv_dup hx hb dX2_step_31 rfl ?_
          refine va_get (D := D) (ci := 2) (v := .int (x.2 2)) (C := RX2) (T := TX2) (N := 5) hx hb htg inX2 hown hK hP 0 rfl rfl 2 (by decide) (htg _ q_1_118) (fun _ h9 => h9) rfl dX2_step_32 ?_
          refine lv_iconst (v := (1 : Int32)) hx hb dX2_step_35 (by decide) ?_
          refine lv_iadd hx hb dX2_step_36 ?_
          refine va_put (D := D) (ci := 2) (v := .int (x.2 2 + (1 : Int32))) (ty := .int) (C := RX2) (T := TX2) (N := 5) hx hb htg inX2 tyX2 tyX2_ok nmX2 hown hK hP hD hS 0 rfl rfl 2 (by decide) (htg _ q_1_118) (fun _ h9 => h9) rfl (by decide +kernel) rfl rfl (Nat.le_of_ble_eq_true rfl) dX2_step_37 (fun H locs (hP : va_P D CL [(a0, e_X2 a1 (upd x.2 2 (x.2 2 + (1 : Int32)))), (a1, eI cA 250 t_bytes)] H) (hD : va_D A [(a0, e_X2 a1 (upd x.2 2 (x.2 2 + (1 : Int32)))), (a1, eI cA 250 t_bytes)]) hS => ?_)
          refine lv_iinc (v := (x.1 + (1 : Int32))) (lv' := [(1, .int (x.1 + (1 : Int32))), (0, .ref a0)]) hx hb dX2_step_40 hl (k := 1) rfl rfl (by decide) rfl (fun ls hl => ?_)
          refine lv_goto (tgt := 10) hx hb dX2_step_43 (by decide) ?_
          exact HK_10 _ _ _ _ hm hP hD hS (lv_sub hl [1, 0] rfl)
  unfold m_X2_step at hm
  subst hargs
  have hl := lv_entry ([.ref a0]) (n := 2) (Nat.le_of_ble_eq_true rfl)
  rw [lg_entry_eq]
  generalize (lg_sl ([.ref a0]) ++ List.replicate (2 - (lg_sl ([.ref a0])).length) Slot.unset).toArray = ls at hl ⊢
  have hl : lv_has ls 2 [(0, .ref a0)] := hl
  refine lv_aload_n hx hb dX2_step_0 rfl (lv_at hl 0 rfl) ?_
  refine lv_aload_n hx hb dX2_step_1 rfl (lv_at hl 0 rfl) ?_
  refine va_get (D := D) (ci := 2) (v := .int (t 3)) (C := RX2) (T := TX2) (N := 5) hx hb htg inX2 hown hK hP 0 rfl rfl 3 (by decide) (htg _ q_1_120) (fun _ h9 => h9) rfl dX2_step_2 ?_
  refine va_put (D := D) (ci := 2) (v := .int (t 3)) (ty := .int) (C := RX2) (T := TX2) (N := 5) hx hb htg inX2 tyX2 tyX2_ok nmX2 hown hK hP hD hS 0 rfl rfl 2 (by decide) (htg _ q_1_118) (fun _ h9 => h9) rfl (by decide +kernel) rfl rfl (Nat.le_of_ble_eq_true rfl) dX2_step_5 (fun H locs (hP : va_P D CL [(a0, e_X2 a1 (upd t 2 (t 3))), (a1, eI cA 250 t_bytes)] H) (hD : va_D A [(a0, e_X2 a1 (upd t 2 (t 3))), (a1, eI cA 250 t_bytes)]) hS => ?_)
  refine lv_iconst (v := (0 : Int32)) hx hb dX2_step_8 (by decide) ?_
  refine lv_istore_n (lv' := [(1, .int (0 : Int32)), (0, .ref a0)]) hx hb dX2_step_9 rfl hl (by decide) rfl (fun ls hl => ?_)
  exact B_10 fu _ _ _ _ hm hP hD hS (lv_sub hl [1, 0] rfl)
def b_X2_readNumber_25 (fu : Nat) (t_bytes : Nat → Int32) (t : Nat → Int32) : Option (Int32 × (Nat → Int32)) :=
  some ((-1 : Int32), t)
def b_X2_readNumber_79 (fu : Nat) (t_bytes : Nat → Int32) (s0 : Int32) (t : Nat → Int32) : Option (Int32 × (Nat → Int32)) :=
  some (s0, t)
def b_X2_readNumber_35 (fu : Nat) (t_bytes : Nat → Int32) (k_35 : (Int32 × Int32 × Int32 × Int32 × (Nat → Int32)) → Option (Int32 × (Nat → Int32))) (x : Int32 × Int32 × Int32 × Int32 × (Nat → Int32)) : Option (Int32 × (Nat → Int32)) :=
  (if x.2.2.2.2 3 ≤ x.2.2.2.1 then
        (m_X5_isWithin fu x.2.2.1 x.1 x.2.1).bind fun o2 =>
        (if o2.1 = 0 then
          b_X2_readNumber_79 fu t_bytes (-1 : Int32) x.2.2.2.2
        else
          b_X2_readNumber_79 fu t_bytes x.2.2.1 x.2.2.2.2)
      else
        (m_X2_byteAt fu x.2.2.2.2 t_bytes x.2.2.2.1).bind fun o5 =>
        k_35 (x.1, x.2.1, ((((10 : Int32) * x.2.2.1) + o5.1) - (48 : Int32)), (x.2.2.2.1 + (1 : Int32)), x.2.2.2.2))
def m_X2_readNumber (fu : Nat) (t : Nat → Int32) (t_bytes : Nat → Int32) (l1 : Int32) (l2 : Int32) : Option (Int32 × (Nat → Int32)) :=
  (m_X2_step fu t t_bytes).bind fun o7 =>
  (if o7 4 = (2 : Int32) then
    (if (o7 3 - o7 2) ≤ (3 : Int32) then
      lfix (b_X2_readNumber_35 fu t_bytes) fu (l1, l2, (0 : Int32), (o7 2), o7)
    else
      b_X2_readNumber_25 fu t_bytes o7)
  else
    b_X2_readNumber_25 fu t_bytes o7)
abbrev rm_X2_readNumber : Room := ({ frames := 2, cells := 0, slots := 0, locals := 42 } : Room)
abbrev w0_X2_readNumber (cA : Nat → ClassId) (a0 : Nat) (a1 : Nat) (t : Nat → Int32) (t_bytes : Nat → Int32) : va_W := [(a0, e_X2 a1 t), (a1, eI cA 250 t_bytes)]
abbrev w1_X2_readNumber (cA : Nat → ClassId) (a0 : Nat) (a1 : Nat) (t_bytes : Nat → Int32) (u : (Nat → Int32)) : va_W := [(a0, e_X2 a1 u), (a1, eI cA 250 t_bytes)]
theorem hd_X2_readNumber : yX2_readNumber.cls = RX2 ∧ yX2_readNumber.cls ≠ "java/lang/invoke/MethodHandle" ∧ yX2_readNumber.cls ≠ "java/lang/invoke/VarHandle" ∧ (parseMethodDescriptor yX2_readNumber.desc).map (fun d => d.parameters.length) = some 2 := by decide +kernel
set_option maxHeartbeats 40000000 in
set_option maxRecDepth 100000 in
theorem c_X2_readNumber (l : Launch) (D : va_G) (cA : Nat → ClassId) (sz : Nat) (fu : Nat) (a0 : Nat) (a1 : Nat) (t : Nat → Int32) (t_bytes : Nat → Int32) (l1 : Int32) (l2 : Int32) (out : Int32 × (Nat → Int32)) (hm : m_X2_readNumber fu t t_bytes l1 l2 = some out) : MI l yX2_readNumber (wU yX2_readNumber cX2_readNumber 5 ((Option.some Jvm.ClassFile.FieldType.int))) rm_X2_readNumber D cA sz [.ref a0, .int l1, .int l2] (w0_X2_readNumber cA a0 a1 t t_bytes) out (w1_X2_readNumber cA a0 a1 t_bytes) := by
  refine Met.ofW (cc := cX2_readNumber) (maxL := 5) (ret := (Option.some Jvm.ClassFile.FieldType.int)) (by decide) rfl ?_
  intro p e s m args below meth c s₁ B hml hv
  obtain ⟨hargs, hsz, hP, hK, hD0, hN⟩ := hv
  have hx := B.exec
  have hb := B.bytes
  have hr := B.returns
  have htg : ∀ w ∈ gw, w.before args s = true := fun w h => atoms_spec (ws := wU yX2_readNumber cX2_readNumber 5 ((Option.some Jvm.ClassFile.FieldType.int))) B.pre w (List.mem_cons_of_mem _ h)
  have hown : s.vm.findClass RX2 = some m.cls := findClass_of_methodNamed B.named
  have hlocks := B.notSynchronized
  subst hsz
  have hD := hD0.self (sz := s.heap.size)
  have hA : ∀ q : Nat, s.heap.size ≤ q → va_A (w0_X2_readNumber cA a0 a1 t t_bytes) s.heap.size q := fun q h => Or.inr h
  have hS : va_S (va_A (w0_X2_readNumber cA a0 a1 t t_bytes) s.heap.size) s.heap s.heap [] := va_S.rf
  generalize va_A (w0_X2_readNumber cA a0 a1 t t_bytes) s.heap.size = A at hA hD hS ⊢
  obtain ⟨Q, hQ⟩ : ∃ Q : State → Prop, Q = MQ below (va_Qi (fun (r : Int32) (u : (Nat → Int32)) => (r, u) = out) (pst0 D cA A (w1_X2_readNumber cA a0 a1 t_bytes)) A) args s 0 0 A := ⟨_, rfl⟩
  refine (?_ : W p l e rm_X2_readNumber s m args below meth c s.heap [] 0 0 (MQ below (va_Qi (fun (r : Int32) (u : (Nat → Int32)) => (r, u) = out) (pst0 D cA A (w1_X2_readNumber cA a0 a1 t_bytes)) A) args s 0 0 A) (entryFrame m args 5))
  rw [← hQ]
  have hP : va_P D CL [(a0, e_X2 a1 t), (a1, eI cA 250 t_bytes)] s.heap := hP
  have hD : va_D A [(a0, e_X2 a1 t), (a1, eI cA 250 t_bytes)] := hD
  have B_25 : ∀ (t : Nat → Int32) (H : Heap) (locs : List Loc) (ls : Array Slot), b_X2_readNumber_25 fu t_bytes t = some out → va_P D CL [(a0, e_X2 a1 t), (a1, eI cA 250 t_bytes)] H → va_D A [(a0, e_X2 a1 t), (a1, eI cA 250 t_bytes)] → va_S A s.heap H locs → lv_has ls 5 [(0, .ref a0)] → W p l e rm_X2_readNumber s m args below meth c H locs 0 0 Q (F0 m 25 ls []) := by
    intro  t H locs ls hm hP hD hS hl
    unfold b_X2_readNumber_25 at hm
    refine lv_iconst (v := (-1 : Int32)) hx hb dX2_readNumber_25 (by decide) ?_
    rw [hQ]
    exact W.iret (v := (-1 : Int32)) hx hb hr (fun t9 ht hW => ⟨⟨(-1 : Int32), t, rfl, (Option.some.inj hm), by rw [ht]; exact hP, va_K.moved hW.alike hK, hD⟩, hS.F ht⟩) hS.2.2 dX2_readNumber_26
  have B_79 : ∀ (s0 : Int32) (t : Nat → Int32) (H : Heap) (locs : List Loc) (ls : Array Slot), b_X2_readNumber_79 fu t_bytes s0 t = some out → va_P D CL [(a0, e_X2 a1 t), (a1, eI cA 250 t_bytes)] H → va_D A [(a0, e_X2 a1 t), (a1, eI cA 250 t_bytes)] → va_S A s.heap H locs → lv_has ls 5 [(0, .ref a0)] → W p l e rm_X2_readNumber s m args below meth c H locs 0 0 Q (F0 m 79 ls [.int s0]) := by
    intro  s0 t H locs ls hm hP hD hS hl
    unfold b_X2_readNumber_79 at hm
    rw [hQ]
    exact W.iret (v := s0) hx hb hr (fun t9 ht hW => ⟨⟨s0, t, rfl, (Option.some.inj hm), by rw [ht]; exact hP, va_K.moved hW.alike hK, hD⟩, hS.F ht⟩) hS.2.2 dX2_readNumber_79
  have B_35 : ∀ (n : Nat) (x : Int32 × Int32 × Int32 × Int32 × (Nat → Int32)) (H : Heap) (locs : List Loc) (ls : Array Slot), lfix (b_X2_readNumber_35 fu t_bytes) n x = some out → va_P D CL [(a0, e_X2 a1 x.2.2.2.2), (a1, eI cA 250 t_bytes)] H → va_D A [(a0, e_X2 a1 x.2.2.2.2), (a1, eI cA 250 t_bytes)] → va_S A s.heap H locs → lv_has ls 5 [(0, .ref a0), (1, .int x.1), (2, .int x.2.1), (3, .int x.2.2.1), (4, .int x.2.2.2.1)] → W p l e rm_X2_readNumber s m args below meth c H locs 0 0 Q (F0 m 35 ls []) := by
    intro  n
    induction n with
    | zero => intro x H locs ls hm; cases (show none = some out from hm)
    | succ n HK_35 =>
      intro x H locs ls hm hP hD hS hl
      replace hm : b_X2_readNumber_35 fu t_bytes (lfix (b_X2_readNumber_35 fu t_bytes) n) x = some out := hm
      unfold b_X2_readNumber_35 at hm
      refine lv_iload hx hb dX2_readNumber_35 (lv_at hl 4 rfl) ?_
      refine lv_aload_n hx hb dX2_readNumber_37 rfl (lv_at hl 0 rfl) ?_
      refine va_get (D := D) (ci := 2) (v := .int (x.2.2.2.2 3)) (C := RX2) (T := TX2) (N := 5) hx hb htg inX2 hown hK hP 0 rfl rfl 3 (by decide) (htg _ q_1_120) (fun _ h9 => h9) rfl dX2_readNumber_38 ?_
      refine lv_icmp_ge (tgt := 65) hx hb dX2_readNumber_41 (by decide) (fun c1 => ?_) (fun c1 => ?_)
      · have hm := it_t c1 hm
        refine lv_iload_n hx hb dX2_readNumber_65 rfl (lv_at hl 3 rfl) ?_
        refine lv_iload_n hx hb dX2_readNumber_66 rfl (lv_at hl 1 rfl) ?_
        refine lv_iload_n hx hb dX2_readNumber_67 rfl (lv_at hl 2 rfl) ?_
        obtain ⟨o2, ho3, hm⟩ := bd_s hm
        refine xr_i (wr := [(a0, e_X2 a1 x.2.2.2.2), (a1, eI cA 250 t_bytes)]) (wn := [(a0, e_X2 a1 x.2.2.2.2), (a1, eI cA 250 t_bytes)]) (va_runSN (As := [.int x.2.2.1, .int x.1, .int x.2.1]) (rest := []) ⟨hx, hb, hml, hown, htg⟩ (c_X5_isWithin l D cA _ fu x.2.2.1 x.1 x.2.1 o2 ho3) ⟨va_cnB 3 htg (gU q_2_9) rfl rfl rfl (hN _ q_2_203) (htg _ q_1_1) hd_X5_isWithin.2 ⟨Nat.le_of_ble_eq_true rfl, Nat.le_of_ble_eq_true rfl⟩, htg _ q_2_8, trivial⟩ (xpS hN hK hP hD [] rfl (by decide)) rfl rfl hl.1 rfl (lv_room (Nat.le_of_ble_eq_true rfl)) dX2_readNumber_68 ⟨Nat.zero_le _, Nat.zero_le _⟩) hP hD hS hA [] [0, 1] [0, 1] rfl rfl (by decide) (by decide) rfl (by decide) (fun H locs hP hD hS => ?_)
        refine lv_if_eq (tgt := 78) hx hb dX2_readNumber_71 (by decide) (fun c4 => ?_) (fun c4 => ?_)
        · have hm := it_t c4 hm
          refine lv_iconst (v := (-1 : Int32)) hx hb dX2_readNumber_78 (by decide) ?_
          exact B_79 _ _ _ _ _ hm hP hD hS (lv_sub hl [0] rfl)
        · have hm := it_f c4 hm
          refine lv_iload_n hx hb dX2_readNumber_74 rfl (lv_at hl 3 rfl) ?_
          refine lv_goto (tgt := 79) hx hb dX2_readNumber_75 (by decide) ?_
          exact B_79 _ _ _ _ _ hm hP hD hS (lv_sub hl [0] rfl)
      · have hm := it_f c1 hm
        refine lv_bipush (v := (10 : Int32)) hx hb dX2_readNumber_44 (by decide) ?_
        refine lv_iload_n hx hb dX2_readNumber_46 rfl (lv_at hl 3 rfl) ?_
        refine lv_imul hx hb dX2_readNumber_47 ?_
        refine lv_aload_n hx hb dX2_readNumber_48 rfl (lv_at hl 0 rfl) ?_
        refine lv_iload hx hb dX2_readNumber_49 (lv_at hl 4 rfl) ?_
        obtain ⟨o5, ho6, hm⟩ := bd_s hm
        refine xr_i (wr := []) (wn := [(a0, e_X2 a1 x.2.2.2.2), (a1, eI cA 250 t_bytes)]) (va_runV (As := [.int x.2.2.2.1]) (rest := [.int ((10 : Int32) * x.2.2.1)]) ⟨hx, hb, hml, hown, htg⟩ (c_X2_byteAt l D cA _ fu a0 a1 x.2.2.2.2 t_bytes x.2.2.2.1 o5 ho6) (cwV 1 htg (gV q_2_224 q_2_226 q_p3_1 q_1_5 q_2_227) rfl rfl rfl hd_X2_byteAt ⟨Nat.le_of_ble_eq_true rfl, Nat.le_of_ble_eq_true rfl⟩) (xpV hN hK hP hD [0, 1] rfl (by decide) rfl rfl) rfl rfl hl.1 rfl (lv_room (Nat.le_of_ble_eq_true rfl)) dX2_readNumber_51 ⟨Nat.zero_le _, Nat.zero_le _⟩) hP hD hS hA [0, 1] [] [0, 1] rfl rfl (by decide) (by decide) rfl (by decide) (fun H locs hP hD hS => ?_)
        refine lv_iadd hx hb dX2_readNumber_54 ?_
        refine lv_bipush (v := (48 : Int32)) hx hb dX2_readNumber_55 (by decide) ?_
        refine lv_isub hx hb dX2_readNumber_57 ?_
        refine lv_istore_n (lv' := [(3, .int ((((10 : Int32) * x.2.2.1) + o5.1) - (48 : Int32))), (0, .ref a0), (1, .int x.1), (2, .int x.2.1), (4, .int x.2.2.2.1)]) hx hb dX2_readNumber_58 rfl hl (by decide) rfl (fun ls hl => ?_)
        refine lv_iinc (v := (x.2.2.2.1 + (1 : Int32))) (lv' := [(4, .int (x.2.2.2.1 + (1 : Int32))), (3, .int ((((10 : Int32) * x.2.2.1) + o5.1) - (48 : Int32))), (0, .ref a0), (1, .int x.1), (2, .int x.2.1)]) hx hb dX2_readNumber_59 hl (k := 4) rfl rfl (by decide) rfl (fun ls hl => ?_)
        refine lv_goto (tgt := 35) hx hb dX2_readNumber_62 (by decide) ?_
        exact HK_35 _ _ _ _ hm hP hD hS (lv_sub hl [2, 3, 4, 1, 0] rfl)
  unfold m_X2_readNumber at hm
  subst hargs
  have hl := lv_entry ([.ref a0, .int l1, .int l2]) (n := 5) (Nat.le_of_ble_eq_true rfl)
  rw [lg_entry_eq]
  generalize (lg_sl ([.ref a0, .int l1, .int l2]) ++ List.replicate (5 - (lg_sl ([.ref a0, .int l1, .int l2])).length) Slot.unset).toArray = ls at hl ⊢
  have hl : lv_has ls 5 [(0, .ref a0), (1, .int l1), (2, .int l2)] := hl
  refine lv_aload_n hx hb dX2_readNumber_0 rfl (lv_at hl 0 rfl) ?_
  obtain ⟨o7, ho8, hm⟩ := bd_s hm
  refine xr_v (wr := []) (wn := [(a0, e_X2 a1 o7), (a1, eI cA 250 t_bytes)]) (va_runV (As := []) (rest := []) ⟨hx, hb, hml, hown, htg⟩ (c_X2_step l D cA _ fu a0 a1 t t_bytes o7 ho8) (cwV 0 htg (gV q_2_220 q_2_222 q_p3_0 q_1_5 q_2_223) rfl rfl rfl hd_X2_step ⟨Nat.le_of_ble_eq_true rfl, Nat.le_of_ble_eq_true rfl⟩) (xpV hN hK hP hD [0, 1] rfl (by decide) rfl rfl) rfl rfl hl.1 rfl (lv_room (Nat.le_of_ble_eq_true rfl)) dX2_readNumber_1 ⟨Nat.zero_le _, Nat.zero_le _⟩) hP hD hS hA [0, 1] [] [0, 1] rfl rfl (by decide) (by decide) rfl (by decide) (fun H locs hP hD hS => ?_)
  refine lv_aload_n hx hb dX2_readNumber_4 rfl (lv_at hl 0 rfl) ?_
  refine va_get (D := D) (ci := 2) (v := .int (o7 4)) (C := RX2) (T := TX2) (N := 5) hx hb htg inX2 hown hK hP 0 rfl rfl 4 (by decide) (htg _ q_1_121) (fun _ h9 => h9) rfl dX2_readNumber_5 ?_
  refine lv_iconst (v := (2 : Int32)) hx hb dX2_readNumber_8 (by decide) ?_
  refine lv_icmp_ne (tgt := 25) hx hb dX2_readNumber_9 (by decide) (fun c9 => ?_) (fun c9 => ?_)
  · have hm := it_f c9 hm
    exact B_25 _ _ _ _ hm hP hD hS (lv_sub hl [0] rfl)
  · have hm := it_t c9 hm
    refine lv_aload_n hx hb dX2_readNumber_12 rfl (lv_at hl 0 rfl) ?_
    refine va_get (D := D) (ci := 2) (v := .int (o7 3)) (C := RX2) (T := TX2) (N := 5) hx hb htg inX2 hown hK hP 0 rfl rfl 3 (by decide) (htg _ q_1_120) (fun _ h9 => h9) rfl dX2_readNumber_13 ?_
    refine lv_aload_n hx hb dX2_readNumber_16 rfl (lv_at hl 0 rfl) ?_
    refine va_get (D := D) (ci := 2) (v := .int (o7 2)) (C := RX2) (T := TX2) (N := 5) hx hb htg inX2 hown hK hP 0 rfl rfl 2 (by decide) (htg _ q_1_118) (fun _ h9 => h9) rfl dX2_readNumber_17 ?_
    refine lv_isub hx hb dX2_readNumber_20 ?_
    refine lv_iconst (v := (3 : Int32)) hx hb dX2_readNumber_21 (by decide) ?_
    refine lv_icmp_le (tgt := 27) hx hb dX2_readNumber_22 (by decide) (fun c10 => ?_) (fun c10 => ?_)
    · have hm := it_t c10 hm
      refine lv_iconst (v := (0 : Int32)) hx hb dX2_readNumber_27 (by decide) ?_
      refine lv_istore_n (lv' := [(3, .int (0 : Int32)), (0, .ref a0), (1, .int l1), (2, .int l2)]) hx hb dX2_readNumber_28 rfl hl (by decide) rfl (fun ls hl => ?_)
      refine lv_aload_n hx hb dX2_readNumber_29 rfl (lv_at hl 1 rfl) ?_
      refine va_get (D := D) (ci := 2) (v := .int (o7 2)) (C := RX2) (T := TX2) (N := 5) hx hb htg inX2 hown hK hP 0 rfl rfl 2 (by decide) (htg _ q_1_118) (fun _ h9 => h9) rfl dX2_readNumber_30 ?_
      refine lv_istore (lv' := [(4, .int (o7 2)), (3, .int (0 : Int32)), (0, .ref a0), (1, .int l1), (2, .int l2)]) hx hb dX2_readNumber_33 hl (by decide) rfl (fun ls hl => ?_)
      exact B_35 fu _ _ _ _ hm hP hD hS (lv_sub hl [2, 3, 4, 1, 0] rfl)
    · have hm := it_f c10 hm
      exact B_25 _ _ _ _ hm hP hD hS (lv_sub hl [0] rfl)
def m_X2_readVoice (fu : Nat) (t : Nat → Int32) (t_bytes : Nat → Int32) (p1 : Nat → Int32) (p1_kinds : Nat → Int32) (p1_as : Nat → Int32) (p1_pitches : Nat → Int32) : Option (Int32 × ((Nat → Int32) × (Nat → Int32) × (Nat → Int32) × (Nat → Int32) × (Nat → Int32))) :=
  (m_X1_hasRoom fu p1).bind fun o1 =>
  (if o1.1 = 0 then
    some ((0 : Int32), (t, p1, p1_kinds, p1_as, p1_pitches))
  else
    (m_X2_readNumber fu t t_bytes (0 : Int32) (5 : Int32)).bind fun o4 =>
    (if o4.1 = (-1 : Int32) then
      some ((0 : Int32), (o4.2, p1, p1_kinds, p1_as, p1_pitches))
    else
      (m_X2_readNumber fu o4.2 t_bytes (0 : Int32) (9 : Int32)).bind fun o7 =>
      (if o7.1 = (-1 : Int32) then
        some ((0 : Int32), (o7.2, p1, p1_kinds, p1_as, p1_pitches))
      else
        (m_X2_readNumber fu o7.2 t_bytes (0 : Int32) (20 : Int32)).bind fun o10 =>
        (if o10.1 = (-1 : Int32) then
          some ((0 : Int32), (o10.2, p1, p1_kinds, p1_as, p1_pitches))
        else
          (m_X1_addVoice fu p1 p1_kinds p1_as p1_pitches o4.1 o7.1 o10.1).bind fun o13 =>
          some ((1 : Int32), (o10.2, o13.1, o13.2.1, o13.2.2.1, o13.2.2.2))))))
abbrev rm_X2_readVoice : Room := ({ frames := 3, cells := 0, slots := 0, locals := 66 } : Room)
abbrev w0_X2_readVoice (cA : Nat → ClassId) (a0 : Nat) (a1 : Nat) (p1a0 : Nat) (p1a1 : Nat) (p1a2 : Nat) (p1a3 : Nat) (t : Nat → Int32) (t_bytes : Nat → Int32) (p1 : Nat → Int32) (p1_kinds : Nat → Int32) (p1_as : Nat → Int32) (p1_pitches : Nat → Int32) : va_W := [(a0, e_X2 a1 t), (a1, eI cA 250 t_bytes), (p1a0, e_X1 p1a1 p1a2 p1a3 p1), (p1a1, eI cA 8 p1_kinds), (p1a2, eI cA 8 p1_as), (p1a3, eI cA 8 p1_pitches)]
abbrev w1_X2_readVoice (cA : Nat → ClassId) (a0 : Nat) (a1 : Nat) (p1a0 : Nat) (p1a1 : Nat) (p1a2 : Nat) (p1a3 : Nat) (t_bytes : Nat → Int32) (u : (Nat → Int32) × (Nat → Int32) × (Nat → Int32) × (Nat → Int32) × (Nat → Int32)) : va_W := [(a0, e_X2 a1 u.1), (a1, eI cA 250 t_bytes), (p1a0, e_X1 p1a1 p1a2 p1a3 u.2.1), (p1a1, eI cA 8 u.2.2.1), (p1a2, eI cA 8 u.2.2.2.1), (p1a3, eI cA 8 u.2.2.2.2)]
theorem hd_X2_readVoice : yX2_readVoice.cls = RX2 ∧ yX2_readVoice.cls ≠ "java/lang/invoke/MethodHandle" ∧ yX2_readVoice.cls ≠ "java/lang/invoke/VarHandle" ∧ (parseMethodDescriptor yX2_readVoice.desc).map (fun d => d.parameters.length) = some 1 := by decide +kernel
set_option maxHeartbeats 40000000 in
set_option maxRecDepth 100000 in
theorem c_X2_readVoice (l : Launch) (D : va_G) (cA : Nat → ClassId) (sz : Nat) (fu : Nat) (a0 : Nat) (a1 : Nat) (p1a0 : Nat) (p1a1 : Nat) (p1a2 : Nat) (p1a3 : Nat) (t : Nat → Int32) (t_bytes : Nat → Int32) (p1 : Nat → Int32) (p1_kinds : Nat → Int32) (p1_as : Nat → Int32) (p1_pitches : Nat → Int32) (out : Int32 × ((Nat → Int32) × (Nat → Int32) × (Nat → Int32) × (Nat → Int32) × (Nat → Int32))) (hm : m_X2_readVoice fu t t_bytes p1 p1_kinds p1_as p1_pitches = some out) : MI l yX2_readVoice (wU yX2_readVoice cX2_readVoice 5 ((Option.some Jvm.ClassFile.FieldType.boolean))) rm_X2_readVoice D cA sz [.ref a0, .ref p1a0] (w0_X2_readVoice cA a0 a1 p1a0 p1a1 p1a2 p1a3 t t_bytes p1 p1_kinds p1_as p1_pitches) out (w1_X2_readVoice cA a0 a1 p1a0 p1a1 p1a2 p1a3 t_bytes) := by
  refine Met.ofW (cc := cX2_readVoice) (maxL := 5) (ret := (Option.some Jvm.ClassFile.FieldType.boolean)) (by decide) rfl ?_
  intro p e s m args below meth c s₁ B hml hv
  obtain ⟨hargs, hsz, hP, hK, hD0, hN⟩ := hv
  have hx := B.exec
  have hb := B.bytes
  have hr := B.returns
  have htg : ∀ w ∈ gw, w.before args s = true := fun w h => atoms_spec (ws := wU yX2_readVoice cX2_readVoice 5 ((Option.some Jvm.ClassFile.FieldType.boolean))) B.pre w (List.mem_cons_of_mem _ h)
  have hown : s.vm.findClass RX2 = some m.cls := findClass_of_methodNamed B.named
  have hlocks := B.notSynchronized
  subst hsz
  have hD := hD0.self (sz := s.heap.size)
  have hA : ∀ q : Nat, s.heap.size ≤ q → va_A (w0_X2_readVoice cA a0 a1 p1a0 p1a1 p1a2 p1a3 t t_bytes p1 p1_kinds p1_as p1_pitches) s.heap.size q := fun q h => Or.inr h
  have hS : va_S (va_A (w0_X2_readVoice cA a0 a1 p1a0 p1a1 p1a2 p1a3 t t_bytes p1 p1_kinds p1_as p1_pitches) s.heap.size) s.heap s.heap [] := va_S.rf
  generalize va_A (w0_X2_readVoice cA a0 a1 p1a0 p1a1 p1a2 p1a3 t t_bytes p1 p1_kinds p1_as p1_pitches) s.heap.size = A at hA hD hS ⊢
  obtain ⟨Q, hQ⟩ : ∃ Q : State → Prop, Q = MQ below (va_Qi (fun (r : Int32) (u : (Nat → Int32) × (Nat → Int32) × (Nat → Int32) × (Nat → Int32) × (Nat → Int32)) => (r, u) = out) (pst0 D cA A (w1_X2_readVoice cA a0 a1 p1a0 p1a1 p1a2 p1a3 t_bytes)) A) args s 0 0 A := ⟨_, rfl⟩
  refine (?_ : W p l e rm_X2_readVoice s m args below meth c s.heap [] 0 0 (MQ below (va_Qi (fun (r : Int32) (u : (Nat → Int32) × (Nat → Int32) × (Nat → Int32) × (Nat → Int32) × (Nat → Int32)) => (r, u) = out) (pst0 D cA A (w1_X2_readVoice cA a0 a1 p1a0 p1a1 p1a2 p1a3 t_bytes)) A) args s 0 0 A) (entryFrame m args 5))
  rw [← hQ]
  have hP : va_P D CL [(a0, e_X2 a1 t), (a1, eI cA 250 t_bytes), (p1a0, e_X1 p1a1 p1a2 p1a3 p1), (p1a1, eI cA 8 p1_kinds), (p1a2, eI cA 8 p1_as), (p1a3, eI cA 8 p1_pitches)] s.heap := hP
  have hD : va_D A [(a0, e_X2 a1 t), (a1, eI cA 250 t_bytes), (p1a0, e_X1 p1a1 p1a2 p1a3 p1), (p1a1, eI cA 8 p1_kinds), (p1a2, eI cA 8 p1_as), (p1a3, eI cA 8 p1_pitches)] := hD
  unfold m_X2_readVoice at hm
  subst hargs
  have hl := lv_entry ([.ref a0, .ref p1a0]) (n := 5) (Nat.le_of_ble_eq_true rfl)
  rw [lg_entry_eq]
  generalize (lg_sl ([.ref a0, .ref p1a0]) ++ List.replicate (5 - (lg_sl ([.ref a0, .ref p1a0])).length) Slot.unset).toArray = ls at hl ⊢
  have hl : lv_has ls 5 [(0, .ref a0), (1, .ref p1a0)] := hl
  refine lv_aload_n hx hb dX2_readVoice_0 rfl (lv_at hl 1 rfl) ?_
  obtain ⟨o1, ho2, hm⟩ := bd_s hm
  refine xr_i (wr := [(a0, e_X2 a1 t), (a1, eI cA 250 t_bytes), (p1a1, eI cA 8 p1_kinds), (p1a2, eI cA 8 p1_as), (p1a3, eI cA 8 p1_pitches)]) (wn := [(a0, e_X2 a1 t), (a1, eI cA 250 t_bytes), (p1a0, e_X1 p1a1 p1a2 p1a3 p1), (p1a1, eI cA 8 p1_kinds), (p1a2, eI cA 8 p1_as), (p1a3, eI cA 8 p1_pitches)]) (va_runVN (As := []) (rest := []) ⟨hx, hb, hml, hown, htg⟩ (c_X1_hasRoom l D cA _ fu p1a0 p1a1 p1a2 p1a3 p1 o1 ho2) ⟨va_cnB 0 htg (gU q_2_170) rfl rfl rfl (hN _ q_3_52) (htg _ q_1_2) hd_X1_hasRoom.2 ⟨Nat.le_of_ble_eq_true rfl, Nat.le_of_ble_eq_true rfl⟩, htg _ q_2_169, htg _ q_p2_9⟩ (xpV hN hK hP hD [2] rfl (by decide) rfl rfl) rfl rfl hl.1 rfl (lv_room (Nat.le_of_ble_eq_true rfl)) dX2_readVoice_1 ⟨Nat.zero_le _, Nat.zero_le _⟩) hP hD hS hA [2] [0, 1, 3, 4, 5] [0, 1, 5, 2, 3, 4] rfl rfl (by decide) (by decide) rfl (by decide) (fun H locs hP hD hS => ?_)
  refine lv_if_ne (tgt := 9) hx hb dX2_readVoice_4 (by decide) (fun c3 => ?_) (fun c3 => ?_)
  · have hm := it_f c3 hm
    refine lv_aload_n hx hb dX2_readVoice_9 rfl (lv_at hl 0 rfl) ?_
    refine lv_iconst (v := (0 : Int32)) hx hb dX2_readVoice_10 (by decide) ?_
    refine lv_iconst (v := (5 : Int32)) hx hb dX2_readVoice_11 (by decide) ?_
    obtain ⟨o4, ho5, hm⟩ := bd_s hm
    refine xr_i (wr := [(p1a0, e_X1 p1a1 p1a2 p1a3 p1), (p1a1, eI cA 8 p1_kinds), (p1a2, eI cA 8 p1_as), (p1a3, eI cA 8 p1_pitches)]) (wn := [(a0, e_X2 a1 o4.2), (a1, eI cA 250 t_bytes), (p1a0, e_X1 p1a1 p1a2 p1a3 p1), (p1a1, eI cA 8 p1_kinds), (p1a2, eI cA 8 p1_as), (p1a3, eI cA 8 p1_pitches)]) (va_runV (As := [.int (0 : Int32), .int (5 : Int32)]) (rest := []) ⟨hx, hb, hml, hown, htg⟩ (c_X2_readNumber l D cA _ fu a0 a1 t t_bytes (0 : Int32) (5 : Int32) o4 ho5) (cwV 2 htg (gV q_3_53 q_3_55 q_p3_5 q_1_5 q_3_56) rfl rfl rfl hd_X2_readNumber ⟨Nat.le_of_ble_eq_true rfl, Nat.le_of_ble_eq_true rfl⟩) (xpV hN hK hP hD [0, 1] rfl (by decide) rfl rfl) rfl rfl hl.1 rfl (lv_room (Nat.le_of_ble_eq_true rfl)) dX2_readVoice_12 ⟨Nat.zero_le _, Nat.zero_le _⟩) hP hD hS hA [0, 1] [2, 3, 4, 5] [4, 5, 0, 1, 2, 3] rfl rfl (by decide) (by decide) rfl (by decide) (fun H locs hP hD hS => ?_)
    refine lv_istore_n (lv' := [(2, .int o4.1), (0, .ref a0), (1, .ref p1a0)]) hx hb dX2_readVoice_15 rfl hl (by decide) rfl (fun ls hl => ?_)
    refine lv_iload_n hx hb dX2_readVoice_16 rfl (lv_at hl 0 rfl) ?_
    refine lv_iconst (v := (-1 : Int32)) hx hb dX2_readVoice_17 (by decide) ?_
    refine lv_icmp_ne (tgt := 23) hx hb dX2_readVoice_18 (by decide) (fun c6 => ?_) (fun c6 => ?_)
    · have hm := it_f c6 hm
      refine lv_aload_n hx hb dX2_readVoice_23 rfl (lv_at hl 1 rfl) ?_
      refine lv_iconst (v := (0 : Int32)) hx hb dX2_readVoice_24 (by decide) ?_
      refine lv_bipush (v := (9 : Int32)) hx hb dX2_readVoice_25 (by decide) ?_
      obtain ⟨o7, ho8, hm⟩ := bd_s hm
      refine xr_i (wr := [(p1a0, e_X1 p1a1 p1a2 p1a3 p1), (p1a1, eI cA 8 p1_kinds), (p1a2, eI cA 8 p1_as), (p1a3, eI cA 8 p1_pitches)]) (wn := [(a0, e_X2 a1 o7.2), (a1, eI cA 250 t_bytes), (p1a0, e_X1 p1a1 p1a2 p1a3 p1), (p1a1, eI cA 8 p1_kinds), (p1a2, eI cA 8 p1_as), (p1a3, eI cA 8 p1_pitches)]) (va_runV (As := [.int (0 : Int32), .int (9 : Int32)]) (rest := []) ⟨hx, hb, hml, hown, htg⟩ (c_X2_readNumber l D cA _ fu a0 a1 o4.2 t_bytes (0 : Int32) (9 : Int32) o7 ho8) (cwV 2 htg (gV q_3_53 q_3_55 q_p3_5 q_1_5 q_3_56) rfl rfl rfl hd_X2_readNumber ⟨Nat.le_of_ble_eq_true rfl, Nat.le_of_ble_eq_true rfl⟩) (xpV hN hK hP hD [0, 1] rfl (by decide) rfl rfl) rfl rfl hl.1 rfl (lv_room (Nat.le_of_ble_eq_true rfl)) dX2_readVoice_27 ⟨Nat.zero_le _, Nat.zero_le _⟩) hP hD hS hA [0, 1] [2, 3, 4, 5] [4, 5, 0, 1, 2, 3] rfl rfl (by decide) (by decide) rfl (by decide) (fun H locs hP hD hS => ?_)
      refine lv_istore_n (lv' := [(3, .int o7.1), (2, .int o4.1), (0, .ref a0), (1, .ref p1a0)]) hx hb dX2_readVoice_30 rfl hl (by decide) rfl (fun ls hl => ?_)
      refine lv_iload_n hx hb dX2_readVoice_31 rfl (lv_at hl 0 rfl) ?_
      refine lv_iconst (v := (-1 : Int32)) hx hb dX2_readVoice_32 (by decide) ?_
      refine lv_icmp_ne (tgt := 38) hx hb dX2_readVoice_33 (by decide) (fun c9 => ?_) (fun c9 => ?_)
      · have hm := it_f c9 hm
        refine lv_aload_n hx hb dX2_readVoice_38 rfl (lv_at hl 2 rfl) ?_
        refine lv_iconst (v := (0 : Int32)) hx hb dX2_readVoice_39 (by decide) ?_
        refine lv_bipush (v := (20 : Int32)) hx hb dX2_readVoice_40 (by decide) ?_
        obtain ⟨o10, ho11, hm⟩ := bd_s hm
        refine xr_i (wr := [(p1a0, e_X1 p1a1 p1a2 p1a3 p1), (p1a1, eI cA 8 p1_kinds), (p1a2, eI cA 8 p1_as), (p1a3, eI cA 8 p1_pitches)]) (wn := [(a0, e_X2 a1 o10.2), (a1, eI cA 250 t_bytes), (p1a0, e_X1 p1a1 p1a2 p1a3 p1), (p1a1, eI cA 8 p1_kinds), (p1a2, eI cA 8 p1_as), (p1a3, eI cA 8 p1_pitches)]) (va_runV (As := [.int (0 : Int32), .int (20 : Int32)]) (rest := []) ⟨hx, hb, hml, hown, htg⟩ (c_X2_readNumber l D cA _ fu a0 a1 o7.2 t_bytes (0 : Int32) (20 : Int32) o10 ho11) (cwV 2 htg (gV q_3_53 q_3_55 q_p3_5 q_1_5 q_3_56) rfl rfl rfl hd_X2_readNumber ⟨Nat.le_of_ble_eq_true rfl, Nat.le_of_ble_eq_true rfl⟩) (xpV hN hK hP hD [0, 1] rfl (by decide) rfl rfl) rfl rfl hl.1 rfl (lv_room (Nat.le_of_ble_eq_true rfl)) dX2_readVoice_42 ⟨Nat.zero_le _, Nat.zero_le _⟩) hP hD hS hA [0, 1] [2, 3, 4, 5] [4, 5, 0, 1, 2, 3] rfl rfl (by decide) (by decide) rfl (by decide) (fun H locs hP hD hS => ?_)
        refine lv_istore (lv' := [(4, .int o10.1), (3, .int o7.1), (2, .int o4.1), (0, .ref a0), (1, .ref p1a0)]) hx hb dX2_readVoice_45 hl (by decide) rfl (fun ls hl => ?_)
        refine lv_iload hx hb dX2_readVoice_47 (lv_at hl 0 rfl) ?_
        refine lv_iconst (v := (-1 : Int32)) hx hb dX2_readVoice_49 (by decide) ?_
        refine lv_icmp_ne (tgt := 55) hx hb dX2_readVoice_50 (by decide) (fun c12 => ?_) (fun c12 => ?_)
        · have hm := it_f c12 hm
          refine lv_aload_n hx hb dX2_readVoice_55 rfl (lv_at hl 4 rfl) ?_
          refine lv_iload_n hx hb dX2_readVoice_56 rfl (lv_at hl 2 rfl) ?_
          refine lv_iload_n hx hb dX2_readVoice_57 rfl (lv_at hl 1 rfl) ?_
          refine lv_iload hx hb dX2_readVoice_58 (lv_at hl 0 rfl) ?_
          obtain ⟨o13, ho14, hm⟩ := bd_s hm
          refine xr_v (wr := [(a0, e_X2 a1 o10.2), (a1, eI cA 250 t_bytes)]) (wn := [(a0, e_X2 a1 o10.2), (a1, eI cA 250 t_bytes), (p1a0, e_X1 p1a1 p1a2 p1a3 o13.1), (p1a1, eI cA 8 o13.2.1), (p1a2, eI cA 8 o13.2.2.1), (p1a3, eI cA 8 o13.2.2.2)]) (va_runVN (As := [.int o4.1, .int o7.1, .int o10.1]) (rest := []) ⟨hx, hb, hml, hown, htg⟩ (c_X1_addVoice l D cA _ fu p1a0 p1a1 p1a2 p1a3 p1 p1_kinds p1_as p1_pitches o4.1 o7.1 o10.1 o13 ho14) ⟨va_cnB 3 htg (gU q_2_174) rfl rfl rfl (hN _ q_3_57) (htg _ q_1_2) hd_X1_addVoice.2 ⟨Nat.le_of_ble_eq_true rfl, Nat.le_of_ble_eq_true rfl⟩, htg _ q_2_173, htg _ q_p2_10⟩ (xpV hN hK hP hD [2, 3, 4, 5] rfl (by decide) rfl rfl) rfl rfl hl.1 rfl (lv_room (Nat.le_of_ble_eq_true rfl)) dX2_readVoice_60 ⟨Nat.zero_le _, Nat.zero_le _⟩) hP hD hS hA [2, 3, 4, 5] [0, 1] [0, 1, 2, 3, 4, 5] rfl rfl (by decide) (by decide) rfl (by decide) (fun H locs hP hD hS => ?_)
          refine lv_iconst (v := (1 : Int32)) hx hb dX2_readVoice_63 (by decide) ?_
          rw [hQ]
          exact W.zret (v := (1 : Int32)) hx hb hr rfl (fun t9 ht hW => ⟨⟨(1 : Int32), (o10.2, o13.1, o13.2.1, o13.2.2.1, o13.2.2.2), rfl, (Option.some.inj hm), by rw [ht]; exact hP, va_K.moved hW.alike hK, hD⟩, hS.F ht⟩) hS.2.2 dX2_readVoice_64
        · have hm := it_t c12 hm
          refine lv_iconst (v := (0 : Int32)) hx hb dX2_readVoice_53 (by decide) ?_
          rw [hQ]
          exact W.zret (v := (0 : Int32)) hx hb hr rfl (fun t9 ht hW => ⟨⟨(0 : Int32), (o10.2, p1, p1_kinds, p1_as, p1_pitches), rfl, (Option.some.inj hm), by rw [ht]; exact hP, va_K.moved hW.alike hK, hD⟩, hS.F ht⟩) hS.2.2 dX2_readVoice_54
      · have hm := it_t c9 hm
        refine lv_iconst (v := (0 : Int32)) hx hb dX2_readVoice_36 (by decide) ?_
        rw [hQ]
        exact W.zret (v := (0 : Int32)) hx hb hr rfl (fun t9 ht hW => ⟨⟨(0 : Int32), (o7.2, p1, p1_kinds, p1_as, p1_pitches), rfl, (Option.some.inj hm), by rw [ht]; exact hP, va_K.moved hW.alike hK, hD⟩, hS.F ht⟩) hS.2.2 dX2_readVoice_37
    · have hm := it_t c6 hm
      refine lv_iconst (v := (0 : Int32)) hx hb dX2_readVoice_21 (by decide) ?_
      rw [hQ]
      exact W.zret (v := (0 : Int32)) hx hb hr rfl (fun t9 ht hW => ⟨⟨(0 : Int32), (o4.2, p1, p1_kinds, p1_as, p1_pitches), rfl, (Option.some.inj hm), by rw [ht]; exact hP, va_K.moved hW.alike hK, hD⟩, hS.F ht⟩) hS.2.2 dX2_readVoice_22
  · have hm := it_t c3 hm
    refine lv_iconst (v := (0 : Int32)) hx hb dX2_readVoice_7 (by decide) ?_
    rw [hQ]
    exact W.zret (v := (0 : Int32)) hx hb hr rfl (fun t9 ht hW => ⟨⟨(0 : Int32), (t, p1, p1_kinds, p1_as, p1_pitches), rfl, (Option.some.inj hm), by rw [ht]; exact hP, va_K.moved hW.alike hK, hD⟩, hS.F ht⟩) hS.2.2 dX2_readVoice_8
def m_X2_readPitch (fu : Nat) (t : Nat → Int32) (t_bytes : Nat → Int32) (p1 : Nat → Int32) (p1_pitches : Nat → Int32) : Option (Int32 × ((Nat → Int32) × (Nat → Int32))) :=
  (m_X2_readNumber fu t t_bytes (0 : Int32) (p1 8 - (1 : Int32))).bind fun o1 =>
  (if o1.1 = (-1 : Int32) then
    some ((0 : Int32), (o1.2, p1_pitches))
  else
    (m_X2_readNumber fu o1.2 t_bytes (0 : Int32) (20 : Int32)).bind fun o4 =>
    (if o4.1 = (-1 : Int32) then
      some ((0 : Int32), (o4.2, p1_pitches))
    else
      (m_X1_putPitch fu p1 p1_pitches o1.1 o4.1).bind fun o7 =>
      some ((1 : Int32), (o4.2, o7))))
abbrev rm_X2_readPitch : Room := ({ frames := 3, cells := 0, slots := 0, locals := 66 } : Room)
abbrev w0_X2_readPitch (cA : Nat → ClassId) (a0 : Nat) (a1 : Nat) (p1a0 : Nat) (p1a1 : Nat) (p1a2 : Nat) (p1a3 : Nat) (t : Nat → Int32) (t_bytes : Nat → Int32) (p1 : Nat → Int32) (p1_pitches : Nat → Int32) : va_W := [(a0, e_X2 a1 t), (a1, eI cA 250 t_bytes), (p1a0, e_X1 p1a1 p1a2 p1a3 p1), (p1a3, eI cA 8 p1_pitches)]
abbrev w1_X2_readPitch (cA : Nat → ClassId) (a0 : Nat) (a1 : Nat) (p1a0 : Nat) (p1a1 : Nat) (p1a2 : Nat) (p1a3 : Nat) (t_bytes : Nat → Int32) (p1 : Nat → Int32) (u : (Nat → Int32) × (Nat → Int32)) : va_W := [(a0, e_X2 a1 u.1), (a1, eI cA 250 t_bytes), (p1a0, e_X1 p1a1 p1a2 p1a3 p1), (p1a3, eI cA 8 u.2)]
theorem hd_X2_readPitch : yX2_readPitch.cls = RX2 ∧ yX2_readPitch.cls ≠ "java/lang/invoke/MethodHandle" ∧ yX2_readPitch.cls ≠ "java/lang/invoke/VarHandle" ∧ (parseMethodDescriptor yX2_readPitch.desc).map (fun d => d.parameters.length) = some 1 := by decide +kernel
set_option maxHeartbeats 40000000 in
set_option maxRecDepth 100000 in
theorem c_X2_readPitch (l : Launch) (D : va_G) (cA : Nat → ClassId) (sz : Nat) (fu : Nat) (a0 : Nat) (a1 : Nat) (p1a0 : Nat) (p1a1 : Nat) (p1a2 : Nat) (p1a3 : Nat) (t : Nat → Int32) (t_bytes : Nat → Int32) (p1 : Nat → Int32) (p1_pitches : Nat → Int32) (out : Int32 × ((Nat → Int32) × (Nat → Int32))) (hm : m_X2_readPitch fu t t_bytes p1 p1_pitches = some out) : MI l yX2_readPitch (wU yX2_readPitch cX2_readPitch 4 ((Option.some Jvm.ClassFile.FieldType.boolean))) rm_X2_readPitch D cA sz [.ref a0, .ref p1a0] (w0_X2_readPitch cA a0 a1 p1a0 p1a1 p1a2 p1a3 t t_bytes p1 p1_pitches) out (w1_X2_readPitch cA a0 a1 p1a0 p1a1 p1a2 p1a3 t_bytes p1) := by
  refine Met.ofW (cc := cX2_readPitch) (maxL := 4) (ret := (Option.some Jvm.ClassFile.FieldType.boolean)) (by decide) rfl ?_
  intro p e s m args below meth c s₁ B hml hv
  obtain ⟨hargs, hsz, hP, hK, hD0, hN⟩ := hv
  have hx := B.exec
  have hb := B.bytes
  have hr := B.returns
  have htg : ∀ w ∈ gw, w.before args s = true := fun w h => atoms_spec (ws := wU yX2_readPitch cX2_readPitch 4 ((Option.some Jvm.ClassFile.FieldType.boolean))) B.pre w (List.mem_cons_of_mem _ h)
  have hown : s.vm.findClass RX2 = some m.cls := findClass_of_methodNamed B.named
  have hlocks := B.notSynchronized
  subst hsz
  have hD := hD0.self (sz := s.heap.size)
  have hA : ∀ q : Nat, s.heap.size ≤ q → va_A (w0_X2_readPitch cA a0 a1 p1a0 p1a1 p1a2 p1a3 t t_bytes p1 p1_pitches) s.heap.size q := fun q h => Or.inr h
  have hS : va_S (va_A (w0_X2_readPitch cA a0 a1 p1a0 p1a1 p1a2 p1a3 t t_bytes p1 p1_pitches) s.heap.size) s.heap s.heap [] := va_S.rf
  generalize va_A (w0_X2_readPitch cA a0 a1 p1a0 p1a1 p1a2 p1a3 t t_bytes p1 p1_pitches) s.heap.size = A at hA hD hS ⊢
  obtain ⟨Q, hQ⟩ : ∃ Q : State → Prop, Q = MQ below (va_Qi (fun (r : Int32) (u : (Nat → Int32) × (Nat → Int32)) => (r, u) = out) (pst0 D cA A (w1_X2_readPitch cA a0 a1 p1a0 p1a1 p1a2 p1a3 t_bytes p1)) A) args s 0 0 A := ⟨_, rfl⟩
  refine (?_ : W p l e rm_X2_readPitch s m args below meth c s.heap [] 0 0 (MQ below (va_Qi (fun (r : Int32) (u : (Nat → Int32) × (Nat → Int32)) => (r, u) = out) (pst0 D cA A (w1_X2_readPitch cA a0 a1 p1a0 p1a1 p1a2 p1a3 t_bytes p1)) A) args s 0 0 A) (entryFrame m args 4))
  rw [← hQ]
  have hP : va_P D CL [(a0, e_X2 a1 t), (a1, eI cA 250 t_bytes), (p1a0, e_X1 p1a1 p1a2 p1a3 p1), (p1a3, eI cA 8 p1_pitches)] s.heap := hP
  have hD : va_D A [(a0, e_X2 a1 t), (a1, eI cA 250 t_bytes), (p1a0, e_X1 p1a1 p1a2 p1a3 p1), (p1a3, eI cA 8 p1_pitches)] := hD
  unfold m_X2_readPitch at hm
  subst hargs
  have hl := lv_entry ([.ref a0, .ref p1a0]) (n := 4) (Nat.le_of_ble_eq_true rfl)
  rw [lg_entry_eq]
  generalize (lg_sl ([.ref a0, .ref p1a0]) ++ List.replicate (4 - (lg_sl ([.ref a0, .ref p1a0])).length) Slot.unset).toArray = ls at hl ⊢
  have hl : lv_has ls 4 [(0, .ref a0), (1, .ref p1a0)] := hl
  refine lv_aload_n hx hb dX2_readPitch_0 rfl (lv_at hl 0 rfl) ?_
  refine lv_iconst (v := (0 : Int32)) hx hb dX2_readPitch_1 (by decide) ?_
  refine lv_aload_n hx hb dX2_readPitch_2 rfl (lv_at hl 1 rfl) ?_
  refine va_getN (D := D) (ci := 1) (v := .int (p1 8)) (C := RX1) (T := TX1) (N := 12) hx hb htg inX1 hown hK hP 2 rfl rfl 8 (by decide) (va_Nw.use rfl (hN _ q_1_59)) (fun _ h9 => h9) rfl dX2_readPitch_3 ?_
  refine lv_iconst (v := (1 : Int32)) hx hb dX2_readPitch_6 (by decide) ?_
  refine lv_isub hx hb dX2_readPitch_7 ?_
  obtain ⟨o1, ho2, hm⟩ := bd_s hm
  refine xr_i (wr := [(p1a0, e_X1 p1a1 p1a2 p1a3 p1), (p1a3, eI cA 8 p1_pitches)]) (wn := [(a0, e_X2 a1 o1.2), (a1, eI cA 250 t_bytes), (p1a0, e_X1 p1a1 p1a2 p1a3 p1), (p1a3, eI cA 8 p1_pitches)]) (va_runV (As := [.int (0 : Int32), .int (p1 8 - (1 : Int32))]) (rest := []) ⟨hx, hb, hml, hown, htg⟩ (c_X2_readNumber l D cA _ fu a0 a1 t t_bytes (0 : Int32) (p1 8 - (1 : Int32)) o1 ho2) (cwV 2 htg (gV q_3_53 q_3_55 q_p3_5 q_1_5 q_3_56) rfl rfl rfl hd_X2_readNumber ⟨Nat.le_of_ble_eq_true rfl, Nat.le_of_ble_eq_true rfl⟩) (xpV hN hK hP hD [0, 1] rfl (by decide) rfl rfl) rfl rfl hl.1 rfl (lv_room (Nat.le_of_ble_eq_true rfl)) dX2_readPitch_8 ⟨Nat.zero_le _, Nat.zero_le _⟩) hP hD hS hA [0, 1] [2, 3] [2, 3, 0, 1] rfl rfl (by decide) (by decide) rfl (by decide) (fun H locs hP hD hS => ?_)
  refine lv_istore_n (lv' := [(2, .int o1.1), (0, .ref a0), (1, .ref p1a0)]) hx hb dX2_readPitch_11 rfl hl (by decide) rfl (fun ls hl => ?_)
  refine lv_iload_n hx hb dX2_readPitch_12 rfl (lv_at hl 0 rfl) ?_
  refine lv_iconst (v := (-1 : Int32)) hx hb dX2_readPitch_13 (by decide) ?_
  refine lv_icmp_ne (tgt := 19) hx hb dX2_readPitch_14 (by decide) (fun c3 => ?_) (fun c3 => ?_)
  · have hm := it_f c3 hm
    refine lv_aload_n hx hb dX2_readPitch_19 rfl (lv_at hl 1 rfl) ?_
    refine lv_iconst (v := (0 : Int32)) hx hb dX2_readPitch_20 (by decide) ?_
    refine lv_bipush (v := (20 : Int32)) hx hb dX2_readPitch_21 (by decide) ?_
    obtain ⟨o4, ho5, hm⟩ := bd_s hm
    refine xr_i (wr := [(p1a0, e_X1 p1a1 p1a2 p1a3 p1), (p1a3, eI cA 8 p1_pitches)]) (wn := [(a0, e_X2 a1 o4.2), (a1, eI cA 250 t_bytes), (p1a0, e_X1 p1a1 p1a2 p1a3 p1), (p1a3, eI cA 8 p1_pitches)]) (va_runV (As := [.int (0 : Int32), .int (20 : Int32)]) (rest := []) ⟨hx, hb, hml, hown, htg⟩ (c_X2_readNumber l D cA _ fu a0 a1 o1.2 t_bytes (0 : Int32) (20 : Int32) o4 ho5) (cwV 2 htg (gV q_3_53 q_3_55 q_p3_5 q_1_5 q_3_56) rfl rfl rfl hd_X2_readNumber ⟨Nat.le_of_ble_eq_true rfl, Nat.le_of_ble_eq_true rfl⟩) (xpV hN hK hP hD [0, 1] rfl (by decide) rfl rfl) rfl rfl hl.1 rfl (lv_room (Nat.le_of_ble_eq_true rfl)) dX2_readPitch_23 ⟨Nat.zero_le _, Nat.zero_le _⟩) hP hD hS hA [0, 1] [2, 3] [2, 3, 0, 1] rfl rfl (by decide) (by decide) rfl (by decide) (fun H locs hP hD hS => ?_)
    refine lv_istore_n (lv' := [(3, .int o4.1), (2, .int o1.1), (0, .ref a0), (1, .ref p1a0)]) hx hb dX2_readPitch_26 rfl hl (by decide) rfl (fun ls hl => ?_)
    refine lv_iload_n hx hb dX2_readPitch_27 rfl (lv_at hl 0 rfl) ?_
    refine lv_iconst (v := (-1 : Int32)) hx hb dX2_readPitch_28 (by decide) ?_
    refine lv_icmp_ne (tgt := 34) hx hb dX2_readPitch_29 (by decide) (fun c6 => ?_) (fun c6 => ?_)
    · have hm := it_f c6 hm
      refine lv_aload_n hx hb dX2_readPitch_34 rfl (lv_at hl 3 rfl) ?_
      refine lv_iload_n hx hb dX2_readPitch_35 rfl (lv_at hl 1 rfl) ?_
      refine lv_iload_n hx hb dX2_readPitch_36 rfl (lv_at hl 0 rfl) ?_
      obtain ⟨o7, ho8, hm⟩ := bd_s hm
      refine xr_v (wr := [(a0, e_X2 a1 o4.2), (a1, eI cA 250 t_bytes)]) (wn := [(a0, e_X2 a1 o4.2), (a1, eI cA 250 t_bytes), (p1a0, e_X1 p1a1 p1a2 p1a3 p1), (p1a3, eI cA 8 o7)]) (va_runVN (As := [.int o1.1, .int o4.1]) (rest := []) ⟨hx, hb, hml, hown, htg⟩ (c_X1_putPitch l D cA _ fu p1a0 p1a1 p1a2 p1a3 p1 p1_pitches o1.1 o4.1 o7 ho8) ⟨va_cnB 2 htg (gU q_2_182) rfl rfl rfl (hN _ q_3_63) (htg _ q_1_2) hd_X1_putPitch.2 ⟨Nat.le_of_ble_eq_true rfl, Nat.le_of_ble_eq_true rfl⟩, htg _ q_2_181, htg _ q_p2_11⟩ (xpV hN hK hP hD [2, 3] rfl (by decide) rfl rfl) rfl rfl hl.1 rfl (lv_room (Nat.le_of_ble_eq_true rfl)) dX2_readPitch_37 ⟨Nat.zero_le _, Nat.zero_le _⟩) hP hD hS hA [2, 3] [0, 1] [0, 1, 2, 3] rfl rfl (by decide) (by decide) rfl (by decide) (fun H locs hP hD hS => ?_)
      refine lv_iconst (v := (1 : Int32)) hx hb dX2_readPitch_40 (by decide) ?_
      rw [hQ]
      exact W.zret (v := (1 : Int32)) hx hb hr rfl (fun t9 ht hW => ⟨⟨(1 : Int32), (o4.2, o7), rfl, (Option.some.inj hm), by rw [ht]; exact hP, va_K.moved hW.alike hK, hD⟩, hS.F ht⟩) hS.2.2 dX2_readPitch_41
    · have hm := it_t c6 hm
      refine lv_iconst (v := (0 : Int32)) hx hb dX2_readPitch_32 (by decide) ?_
      rw [hQ]
      exact W.zret (v := (0 : Int32)) hx hb hr rfl (fun t9 ht hW => ⟨⟨(0 : Int32), (o4.2, p1_pitches), rfl, (Option.some.inj hm), by rw [ht]; exact hP, va_K.moved hW.alike hK, hD⟩, hS.F ht⟩) hS.2.2 dX2_readPitch_33
  · have hm := it_t c3 hm
    refine lv_iconst (v := (0 : Int32)) hx hb dX2_readPitch_17 (by decide) ?_
    rw [hQ]
    exact W.zret (v := (0 : Int32)) hx hb hr rfl (fun t9 ht hW => ⟨⟨(0 : Int32), (o1.2, p1_pitches), rfl, (Option.some.inj hm), by rw [ht]; exact hP, va_K.moved hW.alike hK, hD⟩, hS.F ht⟩) hS.2.2 dX2_readPitch_18
def m_X2_readWeight (fu : Nat) (t : Nat → Int32) (t_bytes : Nat → Int32) (p1 : Nat → Int32) : Option (Int32 × ((Nat → Int32) × (Nat → Int32))) :=
  (m_X2_readNumber fu t t_bytes (2 : Int32) (9 : Int32)).bind fun o1 =>
  (if o1.1 = (-1 : Int32) then
    some ((0 : Int32), (o1.2, p1))
  else
    (m_X2_readNumber fu o1.2 t_bytes (0 : Int32) (o1.1 - (1 : Int32))).bind fun o4 =>
    (if o4.1 = (-1 : Int32) then
      some ((0 : Int32), (o4.2, p1))
    else
      some ((1 : Int32), (o4.2, (upd (upd p1 3 o1.1) 4 o4.1)))))
abbrev rm_X2_readWeight : Room := ({ frames := 3, cells := 0, slots := 0, locals := 66 } : Room)
abbrev w0_X2_readWeight (cA : Nat → ClassId) (a0 : Nat) (a1 : Nat) (p1a0 : Nat) (p1a1 : Nat) (p1a2 : Nat) (p1a3 : Nat) (t : Nat → Int32) (t_bytes : Nat → Int32) (p1 : Nat → Int32) : va_W := [(a0, e_X2 a1 t), (a1, eI cA 250 t_bytes), (p1a0, e_X1 p1a1 p1a2 p1a3 p1)]
abbrev w1_X2_readWeight (cA : Nat → ClassId) (a0 : Nat) (a1 : Nat) (p1a0 : Nat) (p1a1 : Nat) (p1a2 : Nat) (p1a3 : Nat) (t_bytes : Nat → Int32) (u : (Nat → Int32) × (Nat → Int32)) : va_W := [(a0, e_X2 a1 u.1), (a1, eI cA 250 t_bytes), (p1a0, e_X1 p1a1 p1a2 p1a3 u.2)]
theorem hd_X2_readWeight : yX2_readWeight.cls = RX2 ∧ yX2_readWeight.cls ≠ "java/lang/invoke/MethodHandle" ∧ yX2_readWeight.cls ≠ "java/lang/invoke/VarHandle" ∧ (parseMethodDescriptor yX2_readWeight.desc).map (fun d => d.parameters.length) = some 1 := by decide +kernel
set_option maxHeartbeats 40000000 in
set_option maxRecDepth 100000 in
theorem c_X2_readWeight (l : Launch) (D : va_G) (cA : Nat → ClassId) (sz : Nat) (fu : Nat) (a0 : Nat) (a1 : Nat) (p1a0 : Nat) (p1a1 : Nat) (p1a2 : Nat) (p1a3 : Nat) (t : Nat → Int32) (t_bytes : Nat → Int32) (p1 : Nat → Int32) (out : Int32 × ((Nat → Int32) × (Nat → Int32))) (hm : m_X2_readWeight fu t t_bytes p1 = some out) : MI l yX2_readWeight (wU yX2_readWeight cX2_readWeight 4 ((Option.some Jvm.ClassFile.FieldType.boolean))) rm_X2_readWeight D cA sz [.ref a0, .ref p1a0] (w0_X2_readWeight cA a0 a1 p1a0 p1a1 p1a2 p1a3 t t_bytes p1) out (w1_X2_readWeight cA a0 a1 p1a0 p1a1 p1a2 p1a3 t_bytes) := by
  refine Met.ofW (cc := cX2_readWeight) (maxL := 4) (ret := (Option.some Jvm.ClassFile.FieldType.boolean)) (by decide) rfl ?_
  intro p e s m args below meth c s₁ B hml hv
  obtain ⟨hargs, hsz, hP, hK, hD0, hN⟩ := hv
  have hx := B.exec
  have hb := B.bytes
  have hr := B.returns
  have htg : ∀ w ∈ gw, w.before args s = true := fun w h => atoms_spec (ws := wU yX2_readWeight cX2_readWeight 4 ((Option.some Jvm.ClassFile.FieldType.boolean))) B.pre w (List.mem_cons_of_mem _ h)
  have hown : s.vm.findClass RX2 = some m.cls := findClass_of_methodNamed B.named
  have hlocks := B.notSynchronized
  subst hsz
  have hD := hD0.self (sz := s.heap.size)
  have hA : ∀ q : Nat, s.heap.size ≤ q → va_A (w0_X2_readWeight cA a0 a1 p1a0 p1a1 p1a2 p1a3 t t_bytes p1) s.heap.size q := fun q h => Or.inr h
  have hS : va_S (va_A (w0_X2_readWeight cA a0 a1 p1a0 p1a1 p1a2 p1a3 t t_bytes p1) s.heap.size) s.heap s.heap [] := va_S.rf
  generalize va_A (w0_X2_readWeight cA a0 a1 p1a0 p1a1 p1a2 p1a3 t t_bytes p1) s.heap.size = A at hA hD hS ⊢
  obtain ⟨Q, hQ⟩ : ∃ Q : State → Prop, Q = MQ below (va_Qi (fun (r : Int32) (u : (Nat → Int32) × (Nat → Int32)) => (r, u) = out) (pst0 D cA A (w1_X2_readWeight cA a0 a1 p1a0 p1a1 p1a2 p1a3 t_bytes)) A) args s 0 0 A := ⟨_, rfl⟩
  refine (?_ : W p l e rm_X2_readWeight s m args below meth c s.heap [] 0 0 (MQ below (va_Qi (fun (r : Int32) (u : (Nat → Int32) × (Nat → Int32)) => (r, u) = out) (pst0 D cA A (w1_X2_readWeight cA a0 a1 p1a0 p1a1 p1a2 p1a3 t_bytes)) A) args s 0 0 A) (entryFrame m args 4))
  rw [← hQ]
  have hP : va_P D CL [(a0, e_X2 a1 t), (a1, eI cA 250 t_bytes), (p1a0, e_X1 p1a1 p1a2 p1a3 p1)] s.heap := hP
  have hD : va_D A [(a0, e_X2 a1 t), (a1, eI cA 250 t_bytes), (p1a0, e_X1 p1a1 p1a2 p1a3 p1)] := hD
  unfold m_X2_readWeight at hm
  subst hargs
  have hl := lv_entry ([.ref a0, .ref p1a0]) (n := 4) (Nat.le_of_ble_eq_true rfl)
  rw [lg_entry_eq]
  generalize (lg_sl ([.ref a0, .ref p1a0]) ++ List.replicate (4 - (lg_sl ([.ref a0, .ref p1a0])).length) Slot.unset).toArray = ls at hl ⊢
  have hl : lv_has ls 4 [(0, .ref a0), (1, .ref p1a0)] := hl
  refine lv_aload_n hx hb dX2_readWeight_0 rfl (lv_at hl 0 rfl) ?_
  refine lv_iconst (v := (2 : Int32)) hx hb dX2_readWeight_1 (by decide) ?_
  refine lv_bipush (v := (9 : Int32)) hx hb dX2_readWeight_2 (by decide) ?_
  obtain ⟨o1, ho2, hm⟩ := bd_s hm
  refine xr_i (wr := [(p1a0, e_X1 p1a1 p1a2 p1a3 p1)]) (wn := [(a0, e_X2 a1 o1.2), (a1, eI cA 250 t_bytes), (p1a0, e_X1 p1a1 p1a2 p1a3 p1)]) (va_runV (As := [.int (2 : Int32), .int (9 : Int32)]) (rest := []) ⟨hx, hb, hml, hown, htg⟩ (c_X2_readNumber l D cA _ fu a0 a1 t t_bytes (2 : Int32) (9 : Int32) o1 ho2) (cwV 2 htg (gV q_3_53 q_3_55 q_p3_5 q_1_5 q_3_56) rfl rfl rfl hd_X2_readNumber ⟨Nat.le_of_ble_eq_true rfl, Nat.le_of_ble_eq_true rfl⟩) (xpV hN hK hP hD [0, 1] rfl (by decide) rfl rfl) rfl rfl hl.1 rfl (lv_room (Nat.le_of_ble_eq_true rfl)) dX2_readWeight_4 ⟨Nat.zero_le _, Nat.zero_le _⟩) hP hD hS hA [0, 1] [2] [1, 2, 0] rfl rfl (by decide) (by decide) rfl (by decide) (fun H locs hP hD hS => ?_)
  refine lv_istore_n (lv' := [(2, .int o1.1), (0, .ref a0), (1, .ref p1a0)]) hx hb dX2_readWeight_7 rfl hl (by decide) rfl (fun ls hl => ?_)
  refine lv_iload_n hx hb dX2_readWeight_8 rfl (lv_at hl 0 rfl) ?_
  refine lv_iconst (v := (-1 : Int32)) hx hb dX2_readWeight_9 (by decide) ?_
  refine lv_icmp_ne (tgt := 15) hx hb dX2_readWeight_10 (by decide) (fun c3 => ?_) (fun c3 => ?_)
  · have hm := it_f c3 hm
    refine lv_aload_n hx hb dX2_readWeight_15 rfl (lv_at hl 1 rfl) ?_
    refine lv_iconst (v := (0 : Int32)) hx hb dX2_readWeight_16 (by decide) ?_
    refine lv_iload_n hx hb dX2_readWeight_17 rfl (lv_at hl 0 rfl) ?_
    refine lv_iconst (v := (1 : Int32)) hx hb dX2_readWeight_18 (by decide) ?_
    refine lv_isub hx hb dX2_readWeight_19 ?_
    obtain ⟨o4, ho5, hm⟩ := bd_s hm
    refine xr_i (wr := [(p1a0, e_X1 p1a1 p1a2 p1a3 p1)]) (wn := [(a0, e_X2 a1 o4.2), (a1, eI cA 250 t_bytes), (p1a0, e_X1 p1a1 p1a2 p1a3 p1)]) (va_runV (As := [.int (0 : Int32), .int (o1.1 - (1 : Int32))]) (rest := []) ⟨hx, hb, hml, hown, htg⟩ (c_X2_readNumber l D cA _ fu a0 a1 o1.2 t_bytes (0 : Int32) (o1.1 - (1 : Int32)) o4 ho5) (cwV 2 htg (gV q_3_53 q_3_55 q_p3_5 q_1_5 q_3_56) rfl rfl rfl hd_X2_readNumber ⟨Nat.le_of_ble_eq_true rfl, Nat.le_of_ble_eq_true rfl⟩) (xpV hN hK hP hD [0, 1] rfl (by decide) rfl rfl) rfl rfl hl.1 rfl (lv_room (Nat.le_of_ble_eq_true rfl)) dX2_readWeight_20 ⟨Nat.zero_le _, Nat.zero_le _⟩) hP hD hS hA [0, 1] [2] [1, 2, 0] rfl rfl (by decide) (by decide) rfl (by decide) (fun H locs hP hD hS => ?_)
    refine lv_istore_n (lv' := [(3, .int o4.1), (2, .int o1.1), (0, .ref a0), (1, .ref p1a0)]) hx hb dX2_readWeight_23 rfl hl (by decide) rfl (fun ls hl => ?_)
    refine lv_iload_n hx hb dX2_readWeight_24 rfl (lv_at hl 0 rfl) ?_
    refine lv_iconst (v := (-1 : Int32)) hx hb dX2_readWeight_25 (by decide) ?_
    refine lv_icmp_ne (tgt := 31) hx hb dX2_readWeight_26 (by decide) (fun c6 => ?_) (fun c6 => ?_)
    · have hm := it_f c6 hm
      refine lv_aload_n hx hb dX2_readWeight_31 rfl (lv_at hl 3 rfl) ?_
      refine lv_iload_n hx hb dX2_readWeight_32 rfl (lv_at hl 1 rfl) ?_
      refine va_putN (D := D) (ci := 1) (v := .int o1.1) (ty := .int) (C := RX1) (T := TX1) (N := 12) hx hb htg inX1 tyX1 tyX1_ok nmX1 hown hK hP hD hS 2 rfl rfl 3 (by decide) (va_Nw.use rfl (hN _ q_1_45)) (fun _ h9 => h9) rfl (by decide +kernel) rfl rfl (Nat.le_of_ble_eq_true rfl) dX2_readWeight_33 (fun H locs (hP : va_P D CL [(a0, e_X2 a1 o4.2), (a1, eI cA 250 t_bytes), (p1a0, e_X1 p1a1 p1a2 p1a3 (upd p1 3 o1.1))] H) (hD : va_D A [(a0, e_X2 a1 o4.2), (a1, eI cA 250 t_bytes), (p1a0, e_X1 p1a1 p1a2 p1a3 (upd p1 3 o1.1))]) hS => ?_)
      refine lv_aload_n hx hb dX2_readWeight_36 rfl (lv_at hl 3 rfl) ?_
      refine lv_iload_n hx hb dX2_readWeight_37 rfl (lv_at hl 0 rfl) ?_
      refine va_putN (D := D) (ci := 1) (v := .int o4.1) (ty := .int) (C := RX1) (T := TX1) (N := 12) hx hb htg inX1 tyX1 tyX1_ok nmX1 hown hK hP hD hS 2 rfl rfl 4 (by decide) (va_Nw.use rfl (hN _ q_1_49)) (fun _ h9 => h9) rfl (by decide +kernel) rfl rfl (Nat.le_of_ble_eq_true rfl) dX2_readWeight_38 (fun H locs (hP : va_P D CL [(a0, e_X2 a1 o4.2), (a1, eI cA 250 t_bytes), (p1a0, e_X1 p1a1 p1a2 p1a3 (upd (upd p1 3 o1.1) 4 o4.1))] H) (hD : va_D A [(a0, e_X2 a1 o4.2), (a1, eI cA 250 t_bytes), (p1a0, e_X1 p1a1 p1a2 p1a3 (upd (upd p1 3 o1.1) 4 o4.1))]) hS => ?_)
      refine lv_iconst (v := (1 : Int32)) hx hb dX2_readWeight_41 (by decide) ?_
      rw [hQ]
      exact W.zret (v := (1 : Int32)) hx hb hr rfl (fun t9 ht hW => ⟨⟨(1 : Int32), (o4.2, (upd (upd p1 3 o1.1) 4 o4.1)), rfl, (Option.some.inj hm), by rw [ht]; exact hP, va_K.moved hW.alike hK, hD⟩, hS.F ht⟩) hS.2.2 dX2_readWeight_42
    · have hm := it_t c6 hm
      refine lv_iconst (v := (0 : Int32)) hx hb dX2_readWeight_29 (by decide) ?_
      rw [hQ]
      exact W.zret (v := (0 : Int32)) hx hb hr rfl (fun t9 ht hW => ⟨⟨(0 : Int32), (o4.2, p1), rfl, (Option.some.inj hm), by rw [ht]; exact hP, va_K.moved hW.alike hK, hD⟩, hS.F ht⟩) hS.2.2 dX2_readWeight_30
  · have hm := it_t c3 hm
    refine lv_iconst (v := (0 : Int32)) hx hb dX2_readWeight_13 (by decide) ?_
    rw [hQ]
    exact W.zret (v := (0 : Int32)) hx hb hr rfl (fun t9 ht hW => ⟨⟨(0 : Int32), (o1.2, p1), rfl, (Option.some.inj hm), by rw [ht]; exact hP, va_K.moved hW.alike hK, hD⟩, hS.F ht⟩) hS.2.2 dX2_readWeight_14
