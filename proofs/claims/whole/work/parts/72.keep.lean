def m_X6_image_r (fu : Nat) (t : Nat → Int32) (t_L : Nat → Int64) (t_kind : Nat → Int32) (t_by : Nat → Int32) (t_pitch : Nat → Int32) (k : Nat → Int32) (k_L : Nat → Int64) (k_kind : Nat → Int32) (k_by : Nat → Int32) (k_pitch : Nat → Int32) : Option (Int32 × ((Nat → Int32) × (Nat → Int32) × (Nat → Int32) × (Nat → Int32))) :=
  (m_X6_takeFrom fu k k_L k_kind k_by k_pitch t t_L t_kind t_by t_pitch).bind fun o1 =>
  some ((1 : Int32), (o1.1, o1.2.1, o1.2.2.1, o1.2.2.2))
abbrev rm_X6_image_r : Room := ({ frames := 2, cells := 0, slots := 0, locals := 43 } : Room)
abbrev w0_X6_image_r (cA : Nat → ClassId) (am : Nat → Nat) (ttv : Value) (km : Nat → Nat) (kkv : Value) (ktv : Value) (t : Nat → Int32) (t_L : Nat → Int64) (t_kind : Nat → Int32) (t_by : Nat → Int32) (t_pitch : Nat → Int32) (k : Nat → Int32) (k_L : Nat → Int64) (k_kind : Nat → Int32) (k_by : Nat → Int32) (k_pitch : Nat → Int32) : va_W := [((am 0), e_X6 am (.ref (km 0)) ttv t t_L), ((am 17), eI cA 8 t_kind), ((am 18), eI cA 8 t_by), ((am 19), eI cA 8 t_pitch), ((km 0), e_X6 km kkv ktv k k_L), ((km 17), eI cA 8 k_kind), ((km 18), eI cA 8 k_by), ((km 19), eI cA 8 k_pitch)]
abbrev w1_X6_image_r (cA : Nat → ClassId) (am : Nat → Nat) (ttv : Value) (km : Nat → Nat) (kkv : Value) (ktv : Value) (t : Nat → Int32) (t_L : Nat → Int64) (t_kind : Nat → Int32) (t_by : Nat → Int32) (t_pitch : Nat → Int32) (k_L : Nat → Int64) (u : (Nat → Int32) × (Nat → Int32) × (Nat → Int32) × (Nat → Int32)) : va_W := [((am 0), e_X6 am (.ref (km 0)) ttv t t_L), ((am 17), eI cA 8 t_kind), ((am 18), eI cA 8 t_by), ((am 19), eI cA 8 t_pitch), ((km 0), e_X6 km kkv ktv u.1 k_L), ((km 17), eI cA 8 u.2.1), ((km 18), eI cA 8 u.2.2.1), ((km 19), eI cA 8 u.2.2.2)]
theorem hd_X6_image_r : yX6_image.cls = RX6 ∧ yX6_image.cls ≠ "java/lang/invoke/MethodHandle" ∧ yX6_image.cls ≠ "java/lang/invoke/VarHandle" ∧ (parseMethodDescriptor yX6_image.desc).map (fun d => d.parameters.length) = some 0 := by decide +kernel
set_option maxHeartbeats 40000000 in
set_option maxRecDepth 100000 in
theorem c_X6_image_r (l : Launch) (D : va_G) (cA : Nat → ClassId) (sz : Nat) (fu : Nat) (am : Nat → Nat) (ttv : Value) (km : Nat → Nat) (kkv : Value) (ktv : Value) (t : Nat → Int32) (t_L : Nat → Int64) (t_kind : Nat → Int32) (t_by : Nat → Int32) (t_pitch : Nat → Int32) (k : Nat → Int32) (k_L : Nat → Int64) (k_kind : Nat → Int32) (k_by : Nat → Int32) (k_pitch : Nat → Int32) (out : Int32 × ((Nat → Int32) × (Nat → Int32) × (Nat → Int32) × (Nat → Int32))) (hm : m_X6_image_r fu t t_L t_kind t_by t_pitch k k_L k_kind k_by k_pitch = some out) : MI l yX6_image (wU yX6_image cX6_image 1 ((Option.some Jvm.ClassFile.FieldType.int))) rm_X6_image_r D cA sz [.ref (am 0)] (w0_X6_image_r cA am ttv km kkv ktv t t_L t_kind t_by t_pitch k k_L k_kind k_by k_pitch) out (w1_X6_image_r cA am ttv km kkv ktv t t_L t_kind t_by t_pitch k_L) := by
  refine Met.ofW (cc := cX6_image) (maxL := 1) (ret := (Option.some Jvm.ClassFile.FieldType.int)) (by decide) rfl ?_
  intro p e s m args below meth c s₁ B hml hv
  obtain ⟨hargs, hsz, hP, hK, hD0, hN⟩ := hv
  have hx := B.exec
  have hb := B.bytes
  have hr := B.returns
  have htg : ∀ w ∈ gw, w.before args s = true := fun w h => atoms_spec (ws := wU yX6_image cX6_image 1 ((Option.some Jvm.ClassFile.FieldType.int))) B.pre w (List.mem_cons_of_mem _ h)
  have hown : s.vm.findClass RX6 = some m.cls := findClass_of_methodNamed B.named
  have hlocks := B.notSynchronized
  subst hsz
  have hD := hD0.self (sz := s.heap.size)
  have hA : ∀ q : Nat, s.heap.size ≤ q → va_A (w0_X6_image_r cA am ttv km kkv ktv t t_L t_kind t_by t_pitch k k_L k_kind k_by k_pitch) s.heap.size q := fun q h => Or.inr h
  have hS : va_S (va_A (w0_X6_image_r cA am ttv km kkv ktv t t_L t_kind t_by t_pitch k k_L k_kind k_by k_pitch) s.heap.size) s.heap s.heap [] := va_S.rf
  generalize va_A (w0_X6_image_r cA am ttv km kkv ktv t t_L t_kind t_by t_pitch k k_L k_kind k_by k_pitch) s.heap.size = A at hA hD hS ⊢
  obtain ⟨Q, hQ⟩ : ∃ Q : State → Prop, Q = MQ below (va_Qi (fun (r : Int32) (u : (Nat → Int32) × (Nat → Int32) × (Nat → Int32) × (Nat → Int32)) => (r, u) = out) (pst0 D cA A (w1_X6_image_r cA am ttv km kkv ktv t t_L t_kind t_by t_pitch k_L)) A) args s 0 0 A := ⟨_, rfl⟩
  refine (?_ : W p l e rm_X6_image_r s m args below meth c s.heap [] 0 0 (MQ below (va_Qi (fun (r : Int32) (u : (Nat → Int32) × (Nat → Int32) × (Nat → Int32) × (Nat → Int32)) => (r, u) = out) (pst0 D cA A (w1_X6_image_r cA am ttv km kkv ktv t t_L t_kind t_by t_pitch k_L)) A) args s 0 0 A) (entryFrame m args 1))
  rw [← hQ]
  have hP : va_P D CL [((am 0), e_X6 am (.ref (km 0)) ttv t t_L), ((am 17), eI cA 8 t_kind), ((am 18), eI cA 8 t_by), ((am 19), eI cA 8 t_pitch), ((km 0), e_X6 km kkv ktv k k_L), ((km 17), eI cA 8 k_kind), ((km 18), eI cA 8 k_by), ((km 19), eI cA 8 k_pitch)] s.heap := hP
  have hD : va_D A [((am 0), e_X6 am (.ref (km 0)) ttv t t_L), ((am 17), eI cA 8 t_kind), ((am 18), eI cA 8 t_by), ((am 19), eI cA 8 t_pitch), ((km 0), e_X6 km kkv ktv k k_L), ((km 17), eI cA 8 k_kind), ((km 18), eI cA 8 k_by), ((km 19), eI cA 8 k_pitch)] := hD
  unfold m_X6_image_r at hm
  subst hargs
  have hl := lv_entry ([.ref (am 0)]) (n := 1) (Nat.le_of_ble_eq_true rfl)
  rw [lg_entry_eq]
  generalize (lg_sl ([.ref (am 0)]) ++ List.replicate (1 - (lg_sl ([.ref (am 0)])).length) Slot.unset).toArray = ls at hl ⊢
  have hl : lv_has ls 1 [(0, .ref (am 0))] := hl
  refine lv_aload_n hx hb dX6_image_0 rfl (lv_at hl 0 rfl) ?_
  refine va_get (D := D) (ci := 6) (v := .ref (km 0)) (C := RX6) (T := TX6) (N := 49) hx hb htg inX6 hown hK hP 0 rfl rfl 21 (by decide) (htg _ q_4_210) (fun _ h9 => h9) rfl dX6_image_1 ?_
  refine lv_ifnonnull (tgt := 18) hx hb dX6_image_4 (by decide) ?_
  refine lv_aload_n hx hb dX6_image_18 rfl (lv_at hl 0 rfl) ?_
  refine va_get (D := D) (ci := 6) (v := .ref (km 0)) (C := RX6) (T := TX6) (N := 49) hx hb htg inX6 hown hK hP 0 rfl rfl 21 (by decide) (htg _ q_4_210) (fun _ h9 => h9) rfl dX6_image_19 ?_
  refine lv_aload_n hx hb dX6_image_22 rfl (lv_at hl 0 rfl) ?_
  obtain ⟨o1, ho2, hm⟩ := bd_s hm
  refine xr_v (wr := []) (wn := [((am 0), e_X6 am (.ref (km 0)) ttv t t_L), ((am 17), eI cA 8 t_kind), ((am 18), eI cA 8 t_by), ((am 19), eI cA 8 t_pitch), ((km 0), e_X6 km kkv ktv o1.1 k_L), ((km 17), eI cA 8 o1.2.1), ((km 18), eI cA 8 o1.2.2.1), ((km 19), eI cA 8 o1.2.2.2)]) (va_runV (As := [.ref (am 0)]) (rest := []) ⟨hx, hb, hml, hown, htg⟩ (c_X6_takeFrom l D cA _ fu km kkv ktv am (.ref (km 0)) ttv k k_L k_kind k_by k_pitch t t_L t_kind t_by t_pitch o1 ho2) (cwV 1 htg (gV q_5_206 q_5_208 q_p5_15 q_1_8 q_5_209) rfl rfl rfl hd_X6_takeFrom ⟨Nat.le_of_ble_eq_true rfl, Nat.le_of_ble_eq_true rfl⟩) (xpV hN hK hP hD [4, 5, 6, 7, 0, 1, 2, 3] rfl (by decide) rfl rfl) rfl rfl hl.1 rfl (lv_room (Nat.le_of_ble_eq_true rfl)) dX6_image_23 ⟨Nat.zero_le _, Nat.zero_le _⟩) hP hD hS hA [4, 5, 6, 7, 0, 1, 2, 3] [] [4, 5, 6, 7, 0, 1, 2, 3] rfl rfl (by decide) (by decide) rfl (by decide) (fun H locs hP hD hS => ?_)
  refine lv_iconst (v := (1 : Int32)) hx hb dX6_image_26 (by decide) ?_
  rw [hQ]
  exact W.iret (v := (1 : Int32)) hx hb hr (fun t9 ht hW => ⟨⟨(1 : Int32), (o1.1, o1.2.1, o1.2.2.1, o1.2.2.2), rfl, (Option.some.inj hm), by rw [ht]; exact hP, va_K.moved hW.alike hK, hD⟩, hS.F ht⟩) hS.2.2 dX6_image_27
def b_X6_again_r_60 (fu : Nat) (t_L : Nat → Int64) (t_shown : Nat → Int32) (k : Nat → Int32) (k_L : Nat → Int64) (k_kind : Nat → Int32) (k_by : Nat → Int32) (k_pitch : Nat → Int32) (k_24 : (Int32 × (Nat → Int32) × (Nat → Int32) × (Nat → Int32) × (Nat → Int32) × (Nat → Int32)) → Option (Int32 × ((Nat → Int32) × (Nat → Int32) × (Nat → Int32) × (Nat → Int32) × (Nat → Int32)))) (l1 : Int32) (t : Nat → Int32) (t_shelf : Nat → Int32) (t_kind : Nat → Int32) (t_by : Nat → Int32) (t_pitch : Nat → Int32) : Option (Int32 × ((Nat → Int32) × (Nat → Int32) × (Nat → Int32) × (Nat → Int32) × (Nat → Int32))) :=
  k_24 ((l1 + (1 : Int32)), t, t_shelf, t_kind, t_by, t_pitch)
def b_X6_again_r_24 (fu : Nat) (t_L : Nat → Int64) (t_shown : Nat → Int32) (k : Nat → Int32) (k_L : Nat → Int64) (k_kind : Nat → Int32) (k_by : Nat → Int32) (k_pitch : Nat → Int32) (k_24 : (Int32 × (Nat → Int32) × (Nat → Int32) × (Nat → Int32) × (Nat → Int32) × (Nat → Int32)) → Option (Int32 × ((Nat → Int32) × (Nat → Int32) × (Nat → Int32) × (Nat → Int32) × (Nat → Int32)))) (x : Int32 × (Nat → Int32) × (Nat → Int32) × (Nat → Int32) × (Nat → Int32) × (Nat → Int32)) : Option (Int32 × ((Nat → Int32) × (Nat → Int32) × (Nat → Int32) × (Nat → Int32) × (Nat → Int32))) :=
  (if (8 : Int32) ≤ x.1 then
        some ((1 : Int32), (x.2.1, x.2.2.1, x.2.2.2.1, x.2.2.2.2.1, x.2.2.2.2.2))
      else
        gd (inb x.1 8) (
        (if (x.2.2.1 x.1.toNatClampNeg) = (2 : Int32) then
          gd (inb x.1 8) (
          (if (t_shown x.1.toNatClampNeg) < x.2.1 16 then
            b_X6_again_r_60 fu t_L t_shown k k_L k_kind k_by k_pitch k_24 x.1 x.2.1 x.2.2.1 x.2.2.2.1 x.2.2.2.2.1 x.2.2.2.2.2
          else
            gd (inb x.1 8) (
            b_X6_again_r_60 fu t_L t_shown k k_L k_kind k_by k_pitch k_24 x.1 x.2.1 (upd x.2.2.1 x.1.toNatClampNeg (0 : Int32)) x.2.2.2.1 x.2.2.2.2.1 x.2.2.2.2.2)))
        else
          b_X6_again_r_60 fu t_L t_shown k k_L k_kind k_by k_pitch k_24 x.1 x.2.1 x.2.2.1 x.2.2.2.1 x.2.2.2.2.1 x.2.2.2.2.2)))
def m_X6_again_r (fu : Nat) (t : Nat → Int32) (t_L : Nat → Int64) (t_shelf : Nat → Int32) (t_shown : Nat → Int32) (t_kind : Nat → Int32) (t_by : Nat → Int32) (t_pitch : Nat → Int32) (k : Nat → Int32) (k_L : Nat → Int64) (k_kind : Nat → Int32) (k_by : Nat → Int32) (k_pitch : Nat → Int32) : Option (Int32 × ((Nat → Int32) × (Nat → Int32) × (Nat → Int32) × (Nat → Int32) × (Nat → Int32))) :=
  (m_X6_takeFrom fu t t_L t_kind t_by t_pitch k k_L k_kind k_by k_pitch).bind fun o7 =>
  lfix (b_X6_again_r_24 fu t_L t_shown k k_L k_kind k_by k_pitch) fu ((0 : Int32), o7.1, t_shelf, o7.2.1, o7.2.2.1, o7.2.2.2)
abbrev rm_X6_again_r : Room := ({ frames := 2, cells := 0, slots := 0, locals := 43 } : Room)
abbrev w0_X6_again_r (cA : Nat → ClassId) (am : Nat → Nat) (ttv : Value) (km : Nat → Nat) (kkv : Value) (ktv : Value) (t : Nat → Int32) (t_L : Nat → Int64) (t_shelf : Nat → Int32) (t_shown : Nat → Int32) (t_kind : Nat → Int32) (t_by : Nat → Int32) (t_pitch : Nat → Int32) (k : Nat → Int32) (k_L : Nat → Int64) (k_kind : Nat → Int32) (k_by : Nat → Int32) (k_pitch : Nat → Int32) : va_W := [((am 0), e_X6 am (.ref (km 0)) ttv t t_L), ((am 1), eI cA 8 t_shelf), ((am 14), eI cA 8 t_shown), ((am 17), eI cA 8 t_kind), ((am 18), eI cA 8 t_by), ((am 19), eI cA 8 t_pitch), ((km 0), e_X6 km kkv ktv k k_L), ((km 17), eI cA 8 k_kind), ((km 18), eI cA 8 k_by), ((km 19), eI cA 8 k_pitch)]
abbrev w1_X6_again_r (cA : Nat → ClassId) (am : Nat → Nat) (ttv : Value) (km : Nat → Nat) (kkv : Value) (ktv : Value) (t_L : Nat → Int64) (t_shown : Nat → Int32) (k : Nat → Int32) (k_L : Nat → Int64) (k_kind : Nat → Int32) (k_by : Nat → Int32) (k_pitch : Nat → Int32) (u : (Nat → Int32) × (Nat → Int32) × (Nat → Int32) × (Nat → Int32) × (Nat → Int32)) : va_W := [((am 0), e_X6 am (.ref (km 0)) ttv u.1 t_L), ((am 1), eI cA 8 u.2.1), ((am 14), eI cA 8 t_shown), ((am 17), eI cA 8 u.2.2.1), ((am 18), eI cA 8 u.2.2.2.1), ((am 19), eI cA 8 u.2.2.2.2), ((km 0), e_X6 km kkv ktv k k_L), ((km 17), eI cA 8 k_kind), ((km 18), eI cA 8 k_by), ((km 19), eI cA 8 k_pitch)]
theorem hd_X6_again_r : yX6_again.cls = RX6 ∧ yX6_again.cls ≠ "java/lang/invoke/MethodHandle" ∧ yX6_again.cls ≠ "java/lang/invoke/VarHandle" ∧ (parseMethodDescriptor yX6_again.desc).map (fun d => d.parameters.length) = some 0 := by decide +kernel
set_option maxHeartbeats 40000000 in
set_option maxRecDepth 100000 in
theorem c_X6_again_r (l : Launch) (D : va_G) (cA : Nat → ClassId) (sz : Nat) (fu : Nat) (am : Nat → Nat) (ttv : Value) (km : Nat → Nat) (kkv : Value) (ktv : Value) (t : Nat → Int32) (t_L : Nat → Int64) (t_shelf : Nat → Int32) (t_shown : Nat → Int32) (t_kind : Nat → Int32) (t_by : Nat → Int32) (t_pitch : Nat → Int32) (k : Nat → Int32) (k_L : Nat → Int64) (k_kind : Nat → Int32) (k_by : Nat → Int32) (k_pitch : Nat → Int32) (out : Int32 × ((Nat → Int32) × (Nat → Int32) × (Nat → Int32) × (Nat → Int32) × (Nat → Int32))) (hm : m_X6_again_r fu t t_L t_shelf t_shown t_kind t_by t_pitch k k_L k_kind k_by k_pitch = some out) : MI l yX6_again (wU yX6_again cX6_again 2 ((Option.some Jvm.ClassFile.FieldType.int))) rm_X6_again_r D cA sz [.ref (am 0)] (w0_X6_again_r cA am ttv km kkv ktv t t_L t_shelf t_shown t_kind t_by t_pitch k k_L k_kind k_by k_pitch) out (w1_X6_again_r cA am ttv km kkv ktv t_L t_shown k k_L k_kind k_by k_pitch) := by
  refine Met.ofW (cc := cX6_again) (maxL := 2) (ret := (Option.some Jvm.ClassFile.FieldType.int)) (by decide) rfl ?_
  intro p e s m args below meth c s₁ B hml hv
  obtain ⟨hargs, hsz, hP, hK, hD0, hN⟩ := hv
  have hx := B.exec
  have hb := B.bytes
  have hr := B.returns
  have htg : ∀ w ∈ gw, w.before args s = true := fun w h => atoms_spec (ws := wU yX6_again cX6_again 2 ((Option.some Jvm.ClassFile.FieldType.int))) B.pre w (List.mem_cons_of_mem _ h)
  have hown : s.vm.findClass RX6 = some m.cls := findClass_of_methodNamed B.named
  have hlocks := B.notSynchronized
  subst hsz
  have hD := hD0.self (sz := s.heap.size)
  have hA : ∀ q : Nat, s.heap.size ≤ q → va_A (w0_X6_again_r cA am ttv km kkv ktv t t_L t_shelf t_shown t_kind t_by t_pitch k k_L k_kind k_by k_pitch) s.heap.size q := fun q h => Or.inr h
  have hS : va_S (va_A (w0_X6_again_r cA am ttv km kkv ktv t t_L t_shelf t_shown t_kind t_by t_pitch k k_L k_kind k_by k_pitch) s.heap.size) s.heap s.heap [] := va_S.rf
  generalize va_A (w0_X6_again_r cA am ttv km kkv ktv t t_L t_shelf t_shown t_kind t_by t_pitch k k_L k_kind k_by k_pitch) s.heap.size = A at hA hD hS ⊢
  obtain ⟨Q, hQ⟩ : ∃ Q : State → Prop, Q = MQ below (va_Qi (fun (r : Int32) (u : (Nat → Int32) × (Nat → Int32) × (Nat → Int32) × (Nat → Int32) × (Nat → Int32)) => (r, u) = out) (pst0 D cA A (w1_X6_again_r cA am ttv km kkv ktv t_L t_shown k k_L k_kind k_by k_pitch)) A) args s 0 0 A := ⟨_, rfl⟩
  refine (?_ : W p l e rm_X6_again_r s m args below meth c s.heap [] 0 0 (MQ below (va_Qi (fun (r : Int32) (u : (Nat → Int32) × (Nat → Int32) × (Nat → Int32) × (Nat → Int32) × (Nat → Int32)) => (r, u) = out) (pst0 D cA A (w1_X6_again_r cA am ttv km kkv ktv t_L t_shown k k_L k_kind k_by k_pitch)) A) args s 0 0 A) (entryFrame m args 2))
  rw [← hQ]
  have hP : va_P D CL [((am 0), e_X6 am (.ref (km 0)) ttv t t_L), ((am 1), eI cA 8 t_shelf), ((am 14), eI cA 8 t_shown), ((am 17), eI cA 8 t_kind), ((am 18), eI cA 8 t_by), ((am 19), eI cA 8 t_pitch), ((km 0), e_X6 km kkv ktv k k_L), ((km 17), eI cA 8 k_kind), ((km 18), eI cA 8 k_by), ((km 19), eI cA 8 k_pitch)] s.heap := hP
  have hD : va_D A [((am 0), e_X6 am (.ref (km 0)) ttv t t_L), ((am 1), eI cA 8 t_shelf), ((am 14), eI cA 8 t_shown), ((am 17), eI cA 8 t_kind), ((am 18), eI cA 8 t_by), ((am 19), eI cA 8 t_pitch), ((km 0), e_X6 km kkv ktv k k_L), ((km 17), eI cA 8 k_kind), ((km 18), eI cA 8 k_by), ((km 19), eI cA 8 k_pitch)] := hD
  have B_60 : ∀ (k_24 : (Int32 × (Nat → Int32) × (Nat → Int32) × (Nat → Int32) × (Nat → Int32) × (Nat → Int32)) → Option (Int32 × ((Nat → Int32) × (Nat → Int32) × (Nat → Int32) × (Nat → Int32) × (Nat → Int32)))) (HK_24 : ∀ (x : Int32 × (Nat → Int32) × (Nat → Int32) × (Nat → Int32) × (Nat → Int32) × (Nat → Int32)) (H : Heap) (locs : List Loc) (ls : Array Slot), k_24 x = some out → va_P D CL [((am 0), e_X6 am (.ref (km 0)) ttv x.2.1 t_L), ((am 1), eI cA 8 x.2.2.1), ((am 14), eI cA 8 t_shown), ((am 17), eI cA 8 x.2.2.2.1), ((am 18), eI cA 8 x.2.2.2.2.1), ((am 19), eI cA 8 x.2.2.2.2.2), ((km 0), e_X6 km kkv ktv k k_L), ((km 17), eI cA 8 k_kind), ((km 18), eI cA 8 k_by), ((km 19), eI cA 8 k_pitch)] H → va_D A [((am 0), e_X6 am (.ref (km 0)) ttv x.2.1 t_L), ((am 1), eI cA 8 x.2.2.1), ((am 14), eI cA 8 t_shown), ((am 17), eI cA 8 x.2.2.2.1), ((am 18), eI cA 8 x.2.2.2.2.1), ((am 19), eI cA 8 x.2.2.2.2.2), ((km 0), e_X6 km kkv ktv k k_L), ((km 17), eI cA 8 k_kind), ((km 18), eI cA 8 k_by), ((km 19), eI cA 8 k_pitch)] → va_S A s.heap H locs → lv_has ls 2 [(0, .ref (am 0)), (1, .int x.1)] → W p l e rm_X6_again_r s m args below meth c H locs 0 0 Q (F0 m 24 ls [])) (l1 : Int32) (t : Nat → Int32) (t_shelf : Nat → Int32) (t_kind : Nat → Int32) (t_by : Nat → Int32) (t_pitch : Nat → Int32) (H : Heap) (locs : List Loc) (ls : Array Slot), b_X6_again_r_60 fu t_L t_shown k k_L k_kind k_by k_pitch k_24 l1 t t_shelf t_kind t_by t_pitch = some out → va_P D CL [((am 0), e_X6 am (.ref (km 0)) ttv t t_L), ((am 1), eI cA 8 t_shelf), ((am 14), eI cA 8 t_shown), ((am 17), eI cA 8 t_kind), ((am 18), eI cA 8 t_by), ((am 19), eI cA 8 t_pitch), ((km 0), e_X6 km kkv ktv k k_L), ((km 17), eI cA 8 k_kind), ((km 18), eI cA 8 k_by), ((km 19), eI cA 8 k_pitch)] H → va_D A [((am 0), e_X6 am (.ref (km 0)) ttv t t_L), ((am 1), eI cA 8 t_shelf), ((am 14), eI cA 8 t_shown), ((am 17), eI cA 8 t_kind), ((am 18), eI cA 8 t_by), ((am 19), eI cA 8 t_pitch), ((km 0), e_X6 km kkv ktv k k_L), ((km 17), eI cA 8 k_kind), ((km 18), eI cA 8 k_by), ((km 19), eI cA 8 k_pitch)] → va_S A s.heap H locs → lv_has ls 2 [(0, .ref (am 0)), (1, .int l1)] → W p l e rm_X6_again_r s m args below meth c H locs 0 0 Q (F0 m 60 ls []) := by
    intro k_24 HK_24 l1 t t_shelf t_kind t_by t_pitch H locs ls hm hP hD hS hl
    unfold b_X6_again_r_60 at hm
    refine lv_iinc (v := (l1 + (1 : Int32))) (lv' := [(1, .int (l1 + (1 : Int32))), (0, .ref (am 0))]) hx hb dX6_again_60 hl (k := 1) rfl rfl (by decide) rfl (fun ls hl => ?_)
    refine lv_goto (tgt := 24) hx hb dX6_again_63 (by decide) ?_
    exact HK_24 _ _ _ _ hm hP hD hS (lv_sub hl [1, 0] rfl)
  have B_24 : ∀ (n : Nat) (x : Int32 × (Nat → Int32) × (Nat → Int32) × (Nat → Int32) × (Nat → Int32) × (Nat → Int32)) (H : Heap) (locs : List Loc) (ls : Array Slot), lfix (b_X6_again_r_24 fu t_L t_shown k k_L k_kind k_by k_pitch) n x = some out → va_P D CL [((am 0), e_X6 am (.ref (km 0)) ttv x.2.1 t_L), ((am 1), eI cA 8 x.2.2.1), ((am 14), eI cA 8 t_shown), ((am 17), eI cA 8 x.2.2.2.1), ((am 18), eI cA 8 x.2.2.2.2.1), ((am 19), eI cA 8 x.2.2.2.2.2), ((km 0), e_X6 km kkv ktv k k_L), ((km 17), eI cA 8 k_kind), ((km 18), eI cA 8 k_by), ((km 19), eI cA 8 k_pitch)] H → va_D A [((am 0), e_X6 am (.ref (km 0)) ttv x.2.1 t_L), ((am 1), eI cA 8 x.2.2.1), ((am 14), eI cA 8 t_shown), ((am 17), eI cA 8 x.2.2.2.1), ((am 18), eI cA 8 x.2.2.2.2.1), ((am 19), eI cA 8 x.2.2.2.2.2), ((km 0), e_X6 km kkv ktv k k_L), ((km 17), eI cA 8 k_kind), ((km 18), eI cA 8 k_by), ((km 19), eI cA 8 k_pitch)] → va_S A s.heap H locs → lv_has ls 2 [(0, .ref (am 0)), (1, .int x.1)] → W p l e rm_X6_again_r s m args below meth c H locs 0 0 Q (F0 m 24 ls []) := by
    intro  n
    induction n with
    | zero => intro x H locs ls hm; cases (show none = some out from hm)
    | succ n HK_24 =>
      intro x H locs ls hm hP hD hS hl
      replace hm : b_X6_again_r_24 fu t_L t_shown k k_L k_kind k_by k_pitch (lfix (b_X6_again_r_24 fu t_L t_shown k k_L k_kind k_by k_pitch) n) x = some out := hm
      unfold b_X6_again_r_24 at hm
      refine lv_iload_n hx hb dX6_again_24 rfl (lv_at hl 1 rfl) ?_
      refine lv_bipush (v := (8 : Int32)) hx hb dX6_again_25 (by decide) ?_
      refine lv_icmp_ge (tgt := 66) hx hb dX6_again_27 (by decide) (fun c1 => ?_) (fun c1 => ?_)
      · have hm := it_t c1 hm
        refine lv_iconst (v := (1 : Int32)) hx hb dX6_again_66 (by decide) ?_
        rw [hQ]
        exact W.iret (v := (1 : Int32)) hx hb hr (fun t9 ht hW => ⟨⟨(1 : Int32), (x.2.1, x.2.2.1, x.2.2.2.1, x.2.2.2.2.1, x.2.2.2.2.2), rfl, (Option.some.inj hm), by rw [ht]; exact hP, va_K.moved hW.alike hK, hD⟩, hS.F ht⟩) hS.2.2 dX6_again_67
      · have hm := it_f c1 hm
        refine lv_aload_n hx hb dX6_again_30 rfl (lv_at hl 0 rfl) ?_
        refine va_get (D := D) (ci := 6) (v := .ref (am 1)) (C := RX6) (T := TX6) (N := 49) hx hb htg inX6 hown hK hP 0 rfl rfl 0 (by decide) (htg _ q_4_189) (fun _ h9 => h9) rfl dX6_again_31 ?_
        refine lv_iload_n hx hb dX6_again_34 rfl (lv_at hl 1 rfl) ?_
        obtain ⟨hi2, hm⟩ := gd_s hm
        refine va_iald hx hb hK hP 1 0 rfl rfl hi2 dX6_again_35 ?_
        refine lv_iconst (v := (2 : Int32)) hx hb dX6_again_36 (by decide) ?_
        refine lv_icmp_ne (tgt := 60) hx hb dX6_again_37 (by decide) (fun c3 => ?_) (fun c3 => ?_)
        · have hm := it_f c3 hm
          exact B_60 _ HK_24 _ _ _ _ _ _ _ _ _ hm hP hD hS (lv_sub hl [0, 1] rfl)
        · have hm := it_t c3 hm
          refine lv_aload_n hx hb dX6_again_40 rfl (lv_at hl 0 rfl) ?_
          refine va_get (D := D) (ci := 6) (v := .ref (am 14)) (C := RX6) (T := TX6) (N := 49) hx hb htg inX6 hown hK hP 0 rfl rfl 5 (by decide) (htg _ q_4_194) (fun _ h9 => h9) rfl dX6_again_41 ?_
          refine lv_iload_n hx hb dX6_again_44 rfl (lv_at hl 1 rfl) ?_
          obtain ⟨hi4, hm⟩ := gd_s hm
          refine va_iald hx hb hK hP 2 0 rfl rfl hi4 dX6_again_45 ?_
          refine lv_aload_n hx hb dX6_again_46 rfl (lv_at hl 0 rfl) ?_
          refine va_get (D := D) (ci := 6) (v := .int (x.2.1 16)) (C := RX6) (T := TX6) (N := 49) hx hb htg inX6 hown hK hP 0 rfl rfl 16 (by decide) (htg _ q_4_205) (fun _ h9 => h9) rfl dX6_again_47 ?_
          refine lv_icmp_lt (tgt := 60) hx hb dX6_again_50 (by decide) (fun c5 => ?_) (fun c5 => ?_)
          · have hm := it_t c5 hm
            exact B_60 _ HK_24 _ _ _ _ _ _ _ _ _ hm hP hD hS (lv_sub hl [0, 1] rfl)
          · have hm := it_f c5 hm
            refine lv_aload_n hx hb dX6_again_53 rfl (lv_at hl 0 rfl) ?_
            refine va_get (D := D) (ci := 6) (v := .ref (am 1)) (C := RX6) (T := TX6) (N := 49) hx hb htg inX6 hown hK hP 0 rfl rfl 0 (by decide) (htg _ q_4_189) (fun _ h9 => h9) rfl dX6_again_54 ?_
            refine lv_iload_n hx hb dX6_again_57 rfl (lv_at hl 1 rfl) ?_
            refine lv_iconst (v := (0 : Int32)) hx hb dX6_again_58 (by decide) ?_
            obtain ⟨hi6, hm⟩ := gd_s hm
            refine va_iast hx hb hK hP hD hS 1 0 rfl rfl hi6 dX6_again_59 (fun H locs (hP : va_P D CL [((am 0), e_X6 am (.ref (km 0)) ttv x.2.1 t_L), ((am 1), eI cA 8 (upd x.2.2.1 x.1.toNatClampNeg (0 : Int32))), ((am 14), eI cA 8 t_shown), ((am 17), eI cA 8 x.2.2.2.1), ((am 18), eI cA 8 x.2.2.2.2.1), ((am 19), eI cA 8 x.2.2.2.2.2), ((km 0), e_X6 km kkv ktv k k_L), ((km 17), eI cA 8 k_kind), ((km 18), eI cA 8 k_by), ((km 19), eI cA 8 k_pitch)] H) (hD : va_D A [((am 0), e_X6 am (.ref (km 0)) ttv x.2.1 t_L), ((am 1), eI cA 8 (upd x.2.2.1 x.1.toNatClampNeg (0 : Int32))), ((am 14), eI cA 8 t_shown), ((am 17), eI cA 8 x.2.2.2.1), ((am 18), eI cA 8 x.2.2.2.2.1), ((am 19), eI cA 8 x.2.2.2.2.2), ((km 0), e_X6 km kkv ktv k k_L), ((km 17), eI cA 8 k_kind), ((km 18), eI cA 8 k_by), ((km 19), eI cA 8 k_pitch)]) hS => ?_)
            exact B_60 _ HK_24 _ _ _ _ _ _ _ _ _ hm hP hD hS (lv_sub hl [0, 1] rfl)
  unfold m_X6_again_r at hm
  subst hargs
  have hl := lv_entry ([.ref (am 0)]) (n := 2) (Nat.le_of_ble_eq_true rfl)
  rw [lg_entry_eq]
  generalize (lg_sl ([.ref (am 0)]) ++ List.replicate (2 - (lg_sl ([.ref (am 0)])).length) Slot.unset).toArray = ls at hl ⊢
  have hl : lv_has ls 2 [(0, .ref (am 0))] := hl
  refine lv_aload_n hx hb dX6_again_0 rfl (lv_at hl 0 rfl) ?_
  refine va_get (D := D) (ci := 6) (v := .ref (km 0)) (C := RX6) (T := TX6) (N := 49) hx hb htg inX6 hown hK hP 0 rfl rfl 21 (by decide) (htg _ q_4_210) (fun _ h9 => h9) rfl dX6_again_1 ?_
  refine lv_ifnonnull (tgt := 14) hx hb dX6_again_4 (by decide) ?_
  refine lv_aload_n hx hb dX6_again_14 rfl (lv_at hl 0 rfl) ?_
  refine lv_aload_n hx hb dX6_again_15 rfl (lv_at hl 0 rfl) ?_
  refine va_get (D := D) (ci := 6) (v := .ref (km 0)) (C := RX6) (T := TX6) (N := 49) hx hb htg inX6 hown hK hP 0 rfl rfl 21 (by decide) (htg _ q_4_210) (fun _ h9 => h9) rfl dX6_again_16 ?_
  obtain ⟨o7, ho8, hm⟩ := bd_s hm
  refine xr_v (wr := [((am 1), eI cA 8 t_shelf), ((am 14), eI cA 8 t_shown)]) (wn := [((am 0), e_X6 am (.ref (km 0)) ttv o7.1 t_L), ((am 1), eI cA 8 t_shelf), ((am 14), eI cA 8 t_shown), ((am 17), eI cA 8 o7.2.1), ((am 18), eI cA 8 o7.2.2.1), ((am 19), eI cA 8 o7.2.2.2), ((km 0), e_X6 km kkv ktv k k_L), ((km 17), eI cA 8 k_kind), ((km 18), eI cA 8 k_by), ((km 19), eI cA 8 k_pitch)]) (va_runV (As := [.ref (km 0)]) (rest := []) ⟨hx, hb, hml, hown, htg⟩ (c_X6_takeFrom l D cA _ fu am (.ref (km 0)) ttv km kkv ktv t t_L t_kind t_by t_pitch k k_L k_kind k_by k_pitch o7 ho8) (cwV 1 htg (gV q_5_206 q_5_208 q_p5_15 q_1_8 q_5_209) rfl rfl rfl hd_X6_takeFrom ⟨Nat.le_of_ble_eq_true rfl, Nat.le_of_ble_eq_true rfl⟩) (xpV hN hK hP hD [0, 3, 4, 5, 6, 7, 8, 9] rfl (by decide) rfl rfl) rfl rfl hl.1 rfl (lv_room (Nat.le_of_ble_eq_true rfl)) dX6_again_19 ⟨Nat.zero_le _, Nat.zero_le _⟩) hP hD hS hA [0, 3, 4, 5, 6, 7, 8, 9] [1, 2] [2, 0, 1, 3, 4, 5, 6, 7, 8, 9] rfl rfl (by decide) (by decide) rfl (by decide) (fun H locs hP hD hS => ?_)
  refine lv_iconst (v := (0 : Int32)) hx hb dX6_again_22 (by decide) ?_
  refine lv_istore_n (lv' := [(1, .int (0 : Int32)), (0, .ref (am 0))]) hx hb dX6_again_23 rfl hl (by decide) rfl (fun ls hl => ?_)
  exact B_24 fu _ _ _ _ hm hP hD hS (lv_sub hl [1, 0] rfl)
def m_X6_again_n (fu : Nat) (t : Nat → Int32) (t_L : Nat → Int64) (t_refused : Nat → Int32) : Option (Int32 × (Nat → Int32)) :=
  (m_X6_refuse fu t t_L t_refused (-5 : Int32)).bind fun o1 =>
  some (o1.1, o1.2)
abbrev rm_X6_again_n : Room := ({ frames := 1, cells := 0, slots := 0, locals := 21 } : Room)
abbrev w0_X6_again_n (cA : Nat → ClassId) (am : Nat → Nat) (ttv : Value) (t : Nat → Int32) (t_L : Nat → Int64) (t_refused : Nat → Int32) : va_W := [((am 0), e_X6 am .null ttv t t_L), ((am 16), eI cA 8 t_refused)]
abbrev w1_X6_again_n (cA : Nat → ClassId) (am : Nat → Nat) (ttv : Value) (t : Nat → Int32) (t_L : Nat → Int64) (u : (Nat → Int32)) : va_W := [((am 0), e_X6 am .null ttv t t_L), ((am 16), eI cA 8 u)]
theorem hd_X6_again_n : yX6_again.cls = RX6 ∧ yX6_again.cls ≠ "java/lang/invoke/MethodHandle" ∧ yX6_again.cls ≠ "java/lang/invoke/VarHandle" ∧ (parseMethodDescriptor yX6_again.desc).map (fun d => d.parameters.length) = some 0 := by decide +kernel
set_option maxHeartbeats 40000000 in
set_option maxRecDepth 100000 in
theorem c_X6_again_n (l : Launch) (D : va_G) (cA : Nat → ClassId) (sz : Nat) (fu : Nat) (am : Nat → Nat) (ttv : Value) (t : Nat → Int32) (t_L : Nat → Int64) (t_refused : Nat → Int32) (out : Int32 × (Nat → Int32)) (hm : m_X6_again_n fu t t_L t_refused = some out) : MI l yX6_again (wU yX6_again cX6_again 2 ((Option.some Jvm.ClassFile.FieldType.int))) rm_X6_again_n D cA sz [.ref (am 0)] (w0_X6_again_n cA am ttv t t_L t_refused) out (w1_X6_again_n cA am ttv t t_L) := by
  refine Met.ofW (cc := cX6_again) (maxL := 2) (ret := (Option.some Jvm.ClassFile.FieldType.int)) (by decide) rfl ?_
  intro p e s m args below meth c s₁ B hml hv
  obtain ⟨hargs, hsz, hP, hK, hD0, hN⟩ := hv
  have hx := B.exec
  have hb := B.bytes
  have hr := B.returns
  have htg : ∀ w ∈ gw, w.before args s = true := fun w h => atoms_spec (ws := wU yX6_again cX6_again 2 ((Option.some Jvm.ClassFile.FieldType.int))) B.pre w (List.mem_cons_of_mem _ h)
  have hown : s.vm.findClass RX6 = some m.cls := findClass_of_methodNamed B.named
  have hlocks := B.notSynchronized
  subst hsz
  have hD := hD0.self (sz := s.heap.size)
  have hA : ∀ q : Nat, s.heap.size ≤ q → va_A (w0_X6_again_n cA am ttv t t_L t_refused) s.heap.size q := fun q h => Or.inr h
  have hS : va_S (va_A (w0_X6_again_n cA am ttv t t_L t_refused) s.heap.size) s.heap s.heap [] := va_S.rf
  generalize va_A (w0_X6_again_n cA am ttv t t_L t_refused) s.heap.size = A at hA hD hS ⊢
  obtain ⟨Q, hQ⟩ : ∃ Q : State → Prop, Q = MQ below (va_Qi (fun (r : Int32) (u : (Nat → Int32)) => (r, u) = out) (pst0 D cA A (w1_X6_again_n cA am ttv t t_L)) A) args s 0 0 A := ⟨_, rfl⟩
  refine (?_ : W p l e rm_X6_again_n s m args below meth c s.heap [] 0 0 (MQ below (va_Qi (fun (r : Int32) (u : (Nat → Int32)) => (r, u) = out) (pst0 D cA A (w1_X6_again_n cA am ttv t t_L)) A) args s 0 0 A) (entryFrame m args 2))
  rw [← hQ]
  have hP : va_P D CL [((am 0), e_X6 am .null ttv t t_L), ((am 16), eI cA 8 t_refused)] s.heap := hP
  have hD : va_D A [((am 0), e_X6 am .null ttv t t_L), ((am 16), eI cA 8 t_refused)] := hD
  unfold m_X6_again_n at hm
  subst hargs
  have hl := lv_entry ([.ref (am 0)]) (n := 2) (Nat.le_of_ble_eq_true rfl)
  rw [lg_entry_eq]
  generalize (lg_sl ([.ref (am 0)]) ++ List.replicate (2 - (lg_sl ([.ref (am 0)])).length) Slot.unset).toArray = ls at hl ⊢
  have hl : lv_has ls 2 [(0, .ref (am 0))] := hl
  refine lv_aload_n hx hb dX6_again_0 rfl (lv_at hl 0 rfl) ?_
  refine va_get (D := D) (ci := 6) (v := .null) (C := RX6) (T := TX6) (N := 49) hx hb htg inX6 hown hK hP 0 rfl rfl 21 (by decide) (htg _ q_4_210) (fun _ h9 => h9) rfl dX6_again_1 ?_
  refine lv_ifnonnullN hx hb dX6_again_4 ?_
  refine lv_aload_n hx hb dX6_again_7 rfl (lv_at hl 0 rfl) ?_
  refine lv_bipush (v := (-5 : Int32)) hx hb dX6_again_8 (by decide) ?_
  obtain ⟨o1, ho2, hm⟩ := bd_s hm
  refine xr_i (wr := []) (wn := [((am 0), e_X6 am .null ttv t t_L), ((am 16), eI cA 8 o1.2)]) (va_runV (As := [.int (-5 : Int32)]) (rest := []) ⟨hx, hb, hml, hown, htg⟩ (c_X6_refuse l D cA _ fu am .null ttv t t_L t_refused (-5 : Int32) o1 ho2) (cwV 1 htg (gV q_5_108 q_5_110 q_p5_7 q_1_8 q_5_111) rfl rfl rfl hd_X6_refuse ⟨Nat.le_of_ble_eq_true rfl, Nat.le_of_ble_eq_true rfl⟩) (xpV hN hK hP hD [0, 1] rfl (by decide) rfl rfl) rfl rfl hl.1 rfl (lv_room (Nat.le_of_ble_eq_true rfl)) dX6_again_10 ⟨Nat.zero_le _, Nat.zero_le _⟩) hP hD hS hA [0, 1] [] [0, 1] rfl rfl (by decide) (by decide) rfl (by decide) (fun H locs hP hD hS => ?_)
  rw [hQ]
  exact W.iret (v := o1.1) hx hb hr (fun t9 ht hW => ⟨⟨o1.1, o1.2, rfl, (Option.some.inj hm), by rw [ht]; exact hP, va_K.moved hW.alike hK, hD⟩, hS.F ht⟩) hS.2.2 dX6_again_13
def m_X6_well_r (fu : Nat) (t : Nat → Int32) (t_L : Nat → Int64) (t_tape : Nat → Int32) (t_refused : Nat → Int32) (t_kind : Nat → Int32) (t_by : Nat → Int32) (t_pitch : Nat → Int32) (t_told : Nat → Int32) (k : Nat → Int32) (k_L : Nat → Int64) (k_kind : Nat → Int32) (k_by : Nat → Int32) (k_pitch : Nat → Int32) : Option (Int32 × ((Nat → Int32) × (Nat → Int32) × (Nat → Int32) × (Nat → Int32) × (Nat → Int32) × (Nat → Int32) × (Nat → Int32) × (Nat → Int32) × (Nat → Int32) × (Nat → Int32))) :=
  (m_X6_takeFrom fu k k_L k_kind k_by k_pitch t t_L t_kind t_by t_pitch).bind fun o1 =>
  (m_X6_readAll fu t t_L t_tape t_kind t_by t_pitch t_told).bind fun o3 =>
  (if o3.1 = 0 then
    (m_X6_takeFrom fu (upd o3.2.1 7 (0 : Int32)) t_L o3.2.2.1 o3.2.2.2.1 o3.2.2.2.2.1 o1.1 k_L o1.2.1 o1.2.2.1 o1.2.2.2).bind fun o6 =>
    (m_X6_refuse fu o6.1 t_L t_refused (-2 : Int32)).bind fun o8 =>
    some (((-20 : Int32) - o6.1 27), (o6.1, o8.2, o6.2.1, o6.2.2.1, o6.2.2.2, o3.2.2.2.2.2, o1.1, o1.2.1, o1.2.2.1, o1.2.2.2))
  else
    some (o3.2.1 29, ((upd o3.2.1 7 (0 : Int32)), t_refused, o3.2.2.1, o3.2.2.2.1, o3.2.2.2.2.1, o3.2.2.2.2.2, o1.1, o1.2.1, o1.2.2.1, o1.2.2.2)))
abbrev rm_X6_well_r : Room := ({ frames := 7, cells := 0, slots := 0, locals := 148 } : Room)
abbrev w0_X6_well_r (cA : Nat → ClassId) (am : Nat → Nat) (tkv : Value) (km : Nat → Nat) (kkv : Value) (ktv : Value) (t : Nat → Int32) (t_L : Nat → Int64) (t_tape : Nat → Int32) (t_refused : Nat → Int32) (t_kind : Nat → Int32) (t_by : Nat → Int32) (t_pitch : Nat → Int32) (t_told : Nat → Int32) (k : Nat → Int32) (k_L : Nat → Int64) (k_kind : Nat → Int32) (k_by : Nat → Int32) (k_pitch : Nat → Int32) : va_W := [((am 0), e_X6 am tkv (.ref (km 0)) t t_L), ((am 15), eI cA 250 t_tape), ((am 16), eI cA 8 t_refused), ((am 17), eI cA 8 t_kind), ((am 18), eI cA 8 t_by), ((am 19), eI cA 8 t_pitch), ((am 20), eI cA 4 t_told), ((km 0), e_X6 km kkv ktv k k_L), ((km 17), eI cA 8 k_kind), ((km 18), eI cA 8 k_by), ((km 19), eI cA 8 k_pitch)]
abbrev w1_X6_well_r (cA : Nat → ClassId) (am : Nat → Nat) (tkv : Value) (km : Nat → Nat) (kkv : Value) (ktv : Value) (t_L : Nat → Int64) (t_tape : Nat → Int32) (k_L : Nat → Int64) (u : (Nat → Int32) × (Nat → Int32) × (Nat → Int32) × (Nat → Int32) × (Nat → Int32) × (Nat → Int32) × (Nat → Int32) × (Nat → Int32) × (Nat → Int32) × (Nat → Int32)) : va_W := [((am 0), e_X6 am tkv (.ref (km 0)) u.1 t_L), ((am 15), eI cA 250 t_tape), ((am 16), eI cA 8 u.2.1), ((am 17), eI cA 8 u.2.2.1), ((am 18), eI cA 8 u.2.2.2.1), ((am 19), eI cA 8 u.2.2.2.2.1), ((am 20), eI cA 4 u.2.2.2.2.2.1), ((km 0), e_X6 km kkv ktv u.2.2.2.2.2.2.1 k_L), ((km 17), eI cA 8 u.2.2.2.2.2.2.2.1), ((km 18), eI cA 8 u.2.2.2.2.2.2.2.2.1), ((km 19), eI cA 8 u.2.2.2.2.2.2.2.2.2)]
theorem hd_X6_well_r : yX6_well.cls = RX6 ∧ yX6_well.cls ≠ "java/lang/invoke/MethodHandle" ∧ yX6_well.cls ≠ "java/lang/invoke/VarHandle" ∧ (parseMethodDescriptor yX6_well.desc).map (fun d => d.parameters.length) = some 0 := by decide +kernel
set_option maxHeartbeats 40000000 in
set_option maxRecDepth 100000 in
theorem c_X6_well_r (l : Launch) (D : va_G) (cA : Nat → ClassId) (K V : Nat → Nat) (fv : Value) (sz : Nat) (fu : Nat) (am : Nat → Nat) (tkv : Value) (km : Nat → Nat) (kkv : Value) (ktv : Value) (t : Nat → Int32) (t_L : Nat → Int64) (t_tape : Nat → Int32) (t_refused : Nat → Int32) (t_kind : Nat → Int32) (t_by : Nat → Int32) (t_pitch : Nat → Int32) (t_told : Nat → Int32) (k : Nat → Int32) (k_L : Nat → Int64) (k_kind : Nat → Int32) (k_by : Nat → Int32) (k_pitch : Nat → Int32) (out : Int32 × ((Nat → Int32) × (Nat → Int32) × (Nat → Int32) × (Nat → Int32) × (Nat → Int32) × (Nat → Int32) × (Nat → Int32) × (Nat → Int32) × (Nat → Int32) × (Nat → Int32))) (hm : m_X6_well_r fu t t_L t_tape t_refused t_kind t_by t_pitch t_told k k_L k_kind k_by k_pitch = some out) : MI1 l yX6_well (wU yX6_well cX6_well 2 ((Option.some Jvm.ClassFile.FieldType.int))) rm_X6_well_r D cA K V fv sz [.ref (am 0)] (w0_X6_well_r cA am tkv km kkv ktv t t_L t_tape t_refused t_kind t_by t_pitch t_told k k_L k_kind k_by k_pitch) out (w1_X6_well_r cA am tkv km kkv ktv t_L t_tape k_L) := by
  refine Met.ofW (cc := cX6_well) (maxL := 2) (ret := (Option.some Jvm.ClassFile.FieldType.int)) (by decide) rfl ?_
  intro p e s m args below meth c s₁ B hml hv
  obtain ⟨hargs, ⟨hsz, hP, hK, hD0, hN⟩, hSS⟩ := hv
  have hx := B.exec
  have hb := B.bytes
  have hr := B.returns
  have htg : ∀ w ∈ gw, w.before args s = true := fun w h => atoms_spec (ws := wU yX6_well cX6_well 2 ((Option.some Jvm.ClassFile.FieldType.int))) B.pre w (List.mem_cons_of_mem _ h)
  have hown : s.vm.findClass RX6 = some m.cls := findClass_of_methodNamed B.named
  have hlocks := B.notSynchronized
  subst hsz
  have hD := hD0.self (sz := s.heap.size)
  have hA : ∀ q : Nat, s.heap.size ≤ q → va_A (w0_X6_well_r cA am tkv km kkv ktv t t_L t_tape t_refused t_kind t_by t_pitch t_told k k_L k_kind k_by k_pitch) s.heap.size q := fun q h => Or.inr h
  have hS : va_S (va_A (w0_X6_well_r cA am tkv km kkv ktv t t_L t_tape t_refused t_kind t_by t_pitch t_told k k_L k_kind k_by k_pitch) s.heap.size) s.heap s.heap [] := va_S.rf
  generalize va_A (w0_X6_well_r cA am tkv km kkv ktv t t_L t_tape t_refused t_kind t_by t_pitch t_told k k_L k_kind k_by k_pitch) s.heap.size = A at hA hD hS hSS ⊢
  obtain ⟨Q, hQ⟩ : ∃ Q : State → Prop, Q = MQ below (va_Qi (fun (r : Int32) (u : (Nat → Int32) × (Nat → Int32) × (Nat → Int32) × (Nat → Int32) × (Nat → Int32) × (Nat → Int32) × (Nat → Int32) × (Nat → Int32) × (Nat → Int32) × (Nat → Int32)) => (r, u) = out) (pst0 D cA A (w1_X6_well_r cA am tkv km kkv ktv t_L t_tape k_L)) A) args s 0 0 A := ⟨_, rfl⟩
  refine (?_ : W p l e rm_X6_well_r s m args below meth c s.heap [] 0 0 (MQ below (va_Qi (fun (r : Int32) (u : (Nat → Int32) × (Nat → Int32) × (Nat → Int32) × (Nat → Int32) × (Nat → Int32) × (Nat → Int32) × (Nat → Int32) × (Nat → Int32) × (Nat → Int32) × (Nat → Int32)) => (r, u) = out) (pst0 D cA A (w1_X6_well_r cA am tkv km kkv ktv t_L t_tape k_L)) A) args s 0 0 A) (entryFrame m args 2))
  rw [← hQ]
  have hP : va_P D CL [((am 0), e_X6 am tkv (.ref (km 0)) t t_L), ((am 15), eI cA 250 t_tape), ((am 16), eI cA 8 t_refused), ((am 17), eI cA 8 t_kind), ((am 18), eI cA 8 t_by), ((am 19), eI cA 8 t_pitch), ((am 20), eI cA 4 t_told), ((km 0), e_X6 km kkv ktv k k_L), ((km 17), eI cA 8 k_kind), ((km 18), eI cA 8 k_by), ((km 19), eI cA 8 k_pitch)] s.heap := hP
  have hD : va_D A [((am 0), e_X6 am tkv (.ref (km 0)) t t_L), ((am 15), eI cA 250 t_tape), ((am 16), eI cA 8 t_refused), ((am 17), eI cA 8 t_kind), ((am 18), eI cA 8 t_by), ((am 19), eI cA 8 t_pitch), ((am 20), eI cA 4 t_told), ((km 0), e_X6 km kkv ktv k k_L), ((km 17), eI cA 8 k_kind), ((km 18), eI cA 8 k_by), ((km 19), eI cA 8 k_pitch)] := hD
  unfold m_X6_well_r at hm
  subst hargs
  have hl := lv_entry ([.ref (am 0)]) (n := 2) (Nat.le_of_ble_eq_true rfl)
  rw [lg_entry_eq]
  generalize (lg_sl ([.ref (am 0)]) ++ List.replicate (2 - (lg_sl ([.ref (am 0)])).length) Slot.unset).toArray = ls at hl ⊢
  have hl : lv_has ls 2 [(0, .ref (am 0))] := hl
  refine lv_aload_n hx hb dX6_well_0 rfl (lv_at hl 0 rfl) ?_
  refine va_get (D := D) (ci := 6) (v := .ref (km 0)) (C := RX6) (T := TX6) (N := 49) hx hb htg inX6 hown hK hP 0 rfl rfl 22 (by decide) (htg _ q_4_211) (fun _ h9 => h9) rfl dX6_well_1 ?_
  refine lv_ifnonnull (tgt := 18) hx hb dX6_well_4 (by decide) ?_
  refine lv_aload_n hx hb dX6_well_18 rfl (lv_at hl 0 rfl) ?_
  refine va_get (D := D) (ci := 6) (v := .ref (km 0)) (C := RX6) (T := TX6) (N := 49) hx hb htg inX6 hown hK hP 0 rfl rfl 22 (by decide) (htg _ q_4_211) (fun _ h9 => h9) rfl dX6_well_19 ?_
  refine lv_aload_n hx hb dX6_well_22 rfl (lv_at hl 0 rfl) ?_
  obtain ⟨o1, ho2, hm⟩ := bd_s hm
  refine xr_v (wr := [((am 15), eI cA 250 t_tape), ((am 16), eI cA 8 t_refused), ((am 20), eI cA 4 t_told)]) (wn := [((am 0), e_X6 am tkv (.ref (km 0)) t t_L), ((am 15), eI cA 250 t_tape), ((am 16), eI cA 8 t_refused), ((am 17), eI cA 8 t_kind), ((am 18), eI cA 8 t_by), ((am 19), eI cA 8 t_pitch), ((am 20), eI cA 4 t_told), ((km 0), e_X6 km kkv ktv o1.1 k_L), ((km 17), eI cA 8 o1.2.1), ((km 18), eI cA 8 o1.2.2.1), ((km 19), eI cA 8 o1.2.2.2)]) (va_runV (As := [.ref (am 0)]) (rest := []) ⟨hx, hb, hml, hown, htg⟩ (c_X6_takeFrom l D cA _ fu km kkv ktv am tkv (.ref (km 0)) k k_L k_kind k_by k_pitch t t_L t_kind t_by t_pitch o1 ho2) (cwV 1 htg (gV q_5_206 q_5_208 q_p5_15 q_1_8 q_5_209) rfl rfl rfl hd_X6_takeFrom ⟨Nat.le_of_ble_eq_true rfl, Nat.le_of_ble_eq_true rfl⟩) (xpV hN hK hP hD [7, 8, 9, 10, 0, 3, 4, 5] rfl (by decide) rfl rfl) rfl rfl hl.1 rfl (lv_room (Nat.le_of_ble_eq_true rfl)) dX6_well_23 ⟨Nat.zero_le _, Nat.zero_le _⟩) hP hD hS hA [7, 8, 9, 10, 0, 3, 4, 5] [1, 2, 6] [7, 0, 1, 8, 9, 10, 2, 3, 4, 5, 6] rfl rfl (by decide) (by decide) rfl (by decide) (fun H locs hP hD hS => ?_)
  refine lv_aload_n hx hb dX6_well_26 rfl (lv_at hl 0 rfl) ?_
  obtain ⟨o3, ho4, hm⟩ := bd_s hm
  refine xr_i (wr := [((am 16), eI cA 8 t_refused), ((km 0), e_X6 km kkv ktv o1.1 k_L), ((km 17), eI cA 8 o1.2.1), ((km 18), eI cA 8 o1.2.2.1), ((km 19), eI cA 8 o1.2.2.2)]) (wn := [((am 0), e_X6 am tkv (.ref (km 0)) o3.2.1 t_L), ((am 15), eI cA 250 t_tape), ((am 16), eI cA 8 t_refused), ((am 17), eI cA 8 o3.2.2.1), ((am 18), eI cA 8 o3.2.2.2.1), ((am 19), eI cA 8 o3.2.2.2.2.1), ((am 20), eI cA 4 o3.2.2.2.2.2), ((km 0), e_X6 km kkv ktv o1.1 k_L), ((km 17), eI cA 8 o1.2.1), ((km 18), eI cA 8 o1.2.2.1), ((km 19), eI cA 8 o1.2.2.2)]) (va_runV (As := []) (rest := []) ⟨hx, hb, hml, hown, htg⟩ (c_X6_readAll l D cA K V fv _ fu am tkv (.ref (km 0)) t t_L t_tape t_kind t_by t_pitch t_told o3 ho4) (cwV 0 htg (gV q_5_213 q_5_215 q_p6_0 q_1_8 q_5_216) rfl rfl rfl hd_X6_readAll ⟨Nat.le_of_ble_eq_true rfl, Nat.le_of_ble_eq_true rfl⟩) (xpV1 hSS hS hA hN hK hP hD [0, 1, 3, 4, 5, 6] rfl (by decide) rfl rfl) rfl rfl hl.1 rfl (lv_room (Nat.le_of_ble_eq_true rfl)) dX6_well_27 ⟨Nat.zero_le _, Nat.zero_le _⟩) hP hD hS hA [0, 1, 3, 4, 5, 6] [2, 7, 8, 9, 10] [5, 6, 0, 7, 8, 9, 10, 1, 2, 3, 4] rfl rfl (by decide) (by decide) rfl (by decide) (fun H locs hP hD hS => ?_)
  refine lv_istore_n (lv' := [(1, .int o3.1), (0, .ref (am 0))]) hx hb dX6_well_30 rfl hl (by decide) rfl (fun ls hl => ?_)
  refine lv_aload_n hx hb dX6_well_31 rfl (lv_at hl 1 rfl) ?_
  refine lv_iconst (v := (0 : Int32)) hx hb dX6_well_32 (by decide) ?_
  refine va_put (D := D) (ci := 6) (v := .int (0 : Int32)) (ty := .int) (C := RX6) (T := TX6) (N := 49) hx hb htg inX6 tyX6 tyX6_ok nmX6 hown hK hP hD hS 0 rfl rfl 7 (by decide) (htg _ q_4_196) (fun _ h9 => h9) rfl (by decide +kernel) rfl rfl (Nat.le_of_ble_eq_true rfl) dX6_well_33 (fun H locs (hP : va_P D CL [((am 0), e_X6 am tkv (.ref (km 0)) (upd o3.2.1 7 (0 : Int32)) t_L), ((am 15), eI cA 250 t_tape), ((am 16), eI cA 8 t_refused), ((am 17), eI cA 8 o3.2.2.1), ((am 18), eI cA 8 o3.2.2.2.1), ((am 19), eI cA 8 o3.2.2.2.2.1), ((am 20), eI cA 4 o3.2.2.2.2.2), ((km 0), e_X6 km kkv ktv o1.1 k_L), ((km 17), eI cA 8 o1.2.1), ((km 18), eI cA 8 o1.2.2.1), ((km 19), eI cA 8 o1.2.2.2)] H) (hD : va_D A [((am 0), e_X6 am tkv (.ref (km 0)) (upd o3.2.1 7 (0 : Int32)) t_L), ((am 15), eI cA 250 t_tape), ((am 16), eI cA 8 t_refused), ((am 17), eI cA 8 o3.2.2.1), ((am 18), eI cA 8 o3.2.2.2.1), ((am 19), eI cA 8 o3.2.2.2.2.1), ((am 20), eI cA 4 o3.2.2.2.2.2), ((km 0), e_X6 km kkv ktv o1.1 k_L), ((km 17), eI cA 8 o1.2.1), ((km 18), eI cA 8 o1.2.2.1), ((km 19), eI cA 8 o1.2.2.2)]) hS => ?_)
  refine lv_iload_n hx hb dX6_well_36 rfl (lv_at hl 0 rfl) ?_
  refine lv_if_ne (tgt := 63) hx hb dX6_well_37 (by decide) (fun c5 => ?_) (fun c5 => ?_)
  · have hm := it_f c5 hm
    refine lv_aload_n hx hb dX6_well_63 rfl (lv_at hl 1 rfl) ?_
    refine va_get (D := D) (ci := 6) (v := .int (o3.2.1 29)) (C := RX6) (T := TX6) (N := 49) hx hb htg inX6 hown hK hP 0 rfl rfl 29 (by decide) (htg _ q_4_218) (fun _ h9 => h9) rfl dX6_well_64 ?_
    rw [hQ]
    exact W.iret (v := o3.2.1 29) hx hb hr (fun t9 ht hW => ⟨⟨o3.2.1 29, ((upd o3.2.1 7 (0 : Int32)), t_refused, o3.2.2.1, o3.2.2.2.1, o3.2.2.2.2.1, o3.2.2.2.2.2, o1.1, o1.2.1, o1.2.2.1, o1.2.2.2), rfl, (Option.some.inj hm), by rw [ht]; exact hP, va_K.moved hW.alike hK, hD⟩, hS.F ht⟩) hS.2.2 dX6_well_67
  · have hm := it_t c5 hm
    refine lv_aload_n hx hb dX6_well_40 rfl (lv_at hl 1 rfl) ?_
    refine lv_aload_n hx hb dX6_well_41 rfl (lv_at hl 1 rfl) ?_
    refine va_get (D := D) (ci := 6) (v := .ref (km 0)) (C := RX6) (T := TX6) (N := 49) hx hb htg inX6 hown hK hP 0 rfl rfl 22 (by decide) (htg _ q_4_211) (fun _ h9 => h9) rfl dX6_well_42 ?_
    obtain ⟨o6, ho7, hm⟩ := bd_s hm
    refine xr_v (wr := [((am 15), eI cA 250 t_tape), ((am 16), eI cA 8 t_refused), ((am 20), eI cA 4 o3.2.2.2.2.2)]) (wn := [((am 0), e_X6 am tkv (.ref (km 0)) o6.1 t_L), ((am 15), eI cA 250 t_tape), ((am 16), eI cA 8 t_refused), ((am 17), eI cA 8 o6.2.1), ((am 18), eI cA 8 o6.2.2.1), ((am 19), eI cA 8 o6.2.2.2), ((am 20), eI cA 4 o3.2.2.2.2.2), ((km 0), e_X6 km kkv ktv o1.1 k_L), ((km 17), eI cA 8 o1.2.1), ((km 18), eI cA 8 o1.2.2.1), ((km 19), eI cA 8 o1.2.2.2)]) (va_runV (As := [.ref (km 0)]) (rest := []) ⟨hx, hb, hml, hown, htg⟩ (c_X6_takeFrom l D cA _ fu am tkv (.ref (km 0)) km kkv ktv (upd o3.2.1 7 (0 : Int32)) t_L o3.2.2.1 o3.2.2.2.1 o3.2.2.2.2.1 o1.1 k_L o1.2.1 o1.2.2.1 o1.2.2.2 o6 ho7) (cwV 1 htg (gV q_5_206 q_5_208 q_p5_15 q_1_8 q_5_209) rfl rfl rfl hd_X6_takeFrom ⟨Nat.le_of_ble_eq_true rfl, Nat.le_of_ble_eq_true rfl⟩) (xpV hN hK hP hD [0, 3, 4, 5, 7, 8, 9, 10] rfl (by decide) rfl rfl) rfl rfl hl.1 rfl (lv_room (Nat.le_of_ble_eq_true rfl)) dX6_well_45 ⟨Nat.zero_le _, Nat.zero_le _⟩) hP hD hS hA [0, 3, 4, 5, 7, 8, 9, 10] [1, 2, 6] [3, 0, 1, 4, 5, 6, 2, 7, 8, 9, 10] rfl rfl (by decide) (by decide) rfl (by decide) (fun H locs hP hD hS => ?_)
    refine lv_aload_n hx hb dX6_well_48 rfl (lv_at hl 1 rfl) ?_
    refine lv_bipush (v := (-2 : Int32)) hx hb dX6_well_49 (by decide) ?_
    obtain ⟨o8, ho9, hm⟩ := bd_s hm
    refine xr_i (wr := [((am 15), eI cA 250 t_tape), ((am 17), eI cA 8 o6.2.1), ((am 18), eI cA 8 o6.2.2.1), ((am 19), eI cA 8 o6.2.2.2), ((am 20), eI cA 4 o3.2.2.2.2.2), ((km 0), e_X6 km kkv ktv o1.1 k_L), ((km 17), eI cA 8 o1.2.1), ((km 18), eI cA 8 o1.2.2.1), ((km 19), eI cA 8 o1.2.2.2)]) (wn := [((am 0), e_X6 am tkv (.ref (km 0)) o6.1 t_L), ((am 15), eI cA 250 t_tape), ((am 16), eI cA 8 o8.2), ((am 17), eI cA 8 o6.2.1), ((am 18), eI cA 8 o6.2.2.1), ((am 19), eI cA 8 o6.2.2.2), ((am 20), eI cA 4 o3.2.2.2.2.2), ((km 0), e_X6 km kkv ktv o1.1 k_L), ((km 17), eI cA 8 o1.2.1), ((km 18), eI cA 8 o1.2.2.1), ((km 19), eI cA 8 o1.2.2.2)]) (va_runV (As := [.int (-2 : Int32)]) (rest := []) ⟨hx, hb, hml, hown, htg⟩ (c_X6_refuse l D cA _ fu am tkv (.ref (km 0)) o6.1 t_L t_refused (-2 : Int32) o8 ho9) (cwV 1 htg (gV q_5_108 q_5_110 q_p5_7 q_1_8 q_5_111) rfl rfl rfl hd_X6_refuse ⟨Nat.le_of_ble_eq_true rfl, Nat.le_of_ble_eq_true rfl⟩) (xpV hN hK hP hD [0, 2] rfl (by decide) rfl rfl) rfl rfl hl.1 rfl (lv_room (Nat.le_of_ble_eq_true rfl)) dX6_well_51 ⟨Nat.zero_le _, Nat.zero_le _⟩) hP hD hS hA [0, 2] [1, 3, 4, 5, 6, 7, 8, 9, 10] [9, 0, 10, 1, 2, 3, 4, 5, 6, 7, 8] rfl rfl (by decide) (by decide) rfl (by decide) (fun H locs hP hD hS => ?_)
    refine lv_pop hx hb dX6_well_54 rfl ?_
    refine lv_bipush (v := (-20 : Int32)) hx hb dX6_well_55 (by decide) ?_
    refine lv_aload_n hx hb dX6_well_57 rfl (lv_at hl 1 rfl) ?_
    refine va_get (D := D) (ci := 6) (v := .int (o6.1 27)) (C := RX6) (T := TX6) (N := 49) hx hb htg inX6 hown hK hP 0 rfl rfl 27 (by decide) (htg _ q_4_216) (fun _ h9 => h9) rfl dX6_well_58 ?_
    refine lv_isub hx hb dX6_well_61 ?_
    rw [hQ]
    exact W.iret (v := ((-20 : Int32) - o6.1 27)) hx hb hr (fun t9 ht hW => ⟨⟨((-20 : Int32) - o6.1 27), (o6.1, o8.2, o6.2.1, o6.2.2.1, o6.2.2.2, o3.2.2.2.2.2, o1.1, o1.2.1, o1.2.2.1, o1.2.2.2), rfl, (Option.some.inj hm), by rw [ht]; exact hP, va_K.moved hW.alike hK, hD⟩, hS.F ht⟩) hS.2.2 dX6_well_62
