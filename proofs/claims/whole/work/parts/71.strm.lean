def b_X2_isAtWord_24 (fu : Nat) (sx1 : Nat) (t : Nat → Int32) (t_bytes : Nat → Int32)  : Option (Int32 × Unit) :=
  some ((0 : Int32), ())
def b_X2_isAtWord_28 (fu : Nat) (sx1 : Nat) (t : Nat → Int32) (t_bytes : Nat → Int32) (k_28 : Int32 → Option (Int32 × Unit)) (x : Int32) : Option (Int32 × Unit) :=
  (if (Int32.ofNat (lenS.getD sx1 0)) ≤ x then
        some ((1 : Int32), ())
      else
        (m_X2_byteAt fu t t_bytes (t 2 + x)).bind fun o2 =>
        gd (inb x (lenS.getD sx1 0)) (
        (if o2.1 = (chS sx1 x.toNatClampNeg) then
          k_28 (x + (1 : Int32))
        else
          some ((0 : Int32), ()))))
def m_X2_isAtWord (fu : Nat) (sx1 : Nat) (t : Nat → Int32) (t_bytes : Nat → Int32) : Option (Int32 × Unit) :=
  (if t 4 = (1 : Int32) then
    (if (t 3 - t 2) = (Int32.ofNat (lenS.getD sx1 0)) then
      lfix (b_X2_isAtWord_28 fu sx1 t t_bytes) fu (0 : Int32)
    else
      b_X2_isAtWord_24 fu sx1 t t_bytes )
  else
    b_X2_isAtWord_24 fu sx1 t t_bytes )
abbrev rm_X2_isAtWord : Room := ({ frames := 4, cells := 0, slots := 0, locals := 85 } : Room)
abbrev w0_X2_isAtWord (cA : Nat → ClassId) (a0 : Nat) (a1 : Nat) (sx1 : Nat) (t : Nat → Int32) (t_bytes : Nat → Int32) : va_W := [(a0, e_X2 a1 t), (a1, eI cA 250 t_bytes)]
abbrev w1_X2_isAtWord (cA : Nat → ClassId) (a0 : Nat) (a1 : Nat) (sx1 : Nat) (t : Nat → Int32) (t_bytes : Nat → Int32) (u : Unit) : va_W := [(a0, e_X2 a1 t), (a1, eI cA 250 t_bytes)]
theorem hd_X2_isAtWord : yX2_isAtWord.cls = RX2 ∧ yX2_isAtWord.cls ≠ "java/lang/invoke/MethodHandle" ∧ yX2_isAtWord.cls ≠ "java/lang/invoke/VarHandle" ∧ (parseMethodDescriptor yX2_isAtWord.desc).map (fun d => d.parameters.length) = some 1 := by decide +kernel
set_option maxHeartbeats 40000000 in
set_option maxRecDepth 100000 in
theorem c_X2_isAtWord (l : Launch) (D : va_G) (cA : Nat → ClassId) (K V : Nat → Nat) (fv : Value) (sz : Nat) (fu : Nat) (a0 : Nat) (a1 : Nat) (sx1 : Nat) (t : Nat → Int32) (t_bytes : Nat → Int32) (hsx1 : sx1 < 6) (out : Int32 × Unit) (hm : m_X2_isAtWord fu sx1 t t_bytes = some out) : MI1 l yX2_isAtWord (wU yX2_isAtWord cX2_isAtWord 3 ((Option.some Jvm.ClassFile.FieldType.boolean))) rm_X2_isAtWord D cA K V fv sz [.ref a0, .ref (K sx1)] (w0_X2_isAtWord cA a0 a1 sx1 t t_bytes) out (w1_X2_isAtWord cA a0 a1 sx1 t t_bytes) := by
  refine Met.ofW (cc := cX2_isAtWord) (maxL := 3) (ret := (Option.some Jvm.ClassFile.FieldType.boolean)) (by decide) rfl ?_
  intro p e s m args below meth c s₁ B hml hv
  obtain ⟨hargs, ⟨hsz, hP, hK, hD0, hN⟩, hSS⟩ := hv
  have hx := B.exec
  have hb := B.bytes
  have hr := B.returns
  have htg : ∀ w ∈ gw, w.before args s = true := fun w h => atoms_spec (ws := wU yX2_isAtWord cX2_isAtWord 3 ((Option.some Jvm.ClassFile.FieldType.boolean))) B.pre w (List.mem_cons_of_mem _ h)
  have hown : s.vm.findClass RX2 = some m.cls := findClass_of_methodNamed B.named
  have hlocks := B.notSynchronized
  subst hsz
  have hD := hD0.self (sz := s.heap.size)
  have hA : ∀ q : Nat, s.heap.size ≤ q → va_A (w0_X2_isAtWord cA a0 a1 sx1 t t_bytes) s.heap.size q := fun q h => Or.inr h
  have hS : va_S (va_A (w0_X2_isAtWord cA a0 a1 sx1 t t_bytes) s.heap.size) s.heap s.heap [] := va_S.rf
  generalize va_A (w0_X2_isAtWord cA a0 a1 sx1 t t_bytes) s.heap.size = A at hA hD hS hSS ⊢
  obtain ⟨Q, hQ⟩ : ∃ Q : State → Prop, Q = MQ below (va_Qi (fun (r : Int32) (u : Unit) => (r, u) = out) (pst0 D cA A (w1_X2_isAtWord cA a0 a1 sx1 t t_bytes)) A) args s 0 0 A := ⟨_, rfl⟩
  refine (?_ : W p l e rm_X2_isAtWord s m args below meth c s.heap [] 0 0 (MQ below (va_Qi (fun (r : Int32) (u : Unit) => (r, u) = out) (pst0 D cA A (w1_X2_isAtWord cA a0 a1 sx1 t t_bytes)) A) args s 0 0 A) (entryFrame m args 3))
  rw [← hQ]
  have hP : va_P D CL [(a0, e_X2 a1 t), (a1, eI cA 250 t_bytes)] s.heap := hP
  have hD : va_D A [(a0, e_X2 a1 t), (a1, eI cA 250 t_bytes)] := hD
  have B_24 : ∀  (H : Heap) (locs : List Loc) (ls : Array Slot), b_X2_isAtWord_24 fu sx1 t t_bytes  = some out → va_P D CL [(a0, e_X2 a1 t), (a1, eI cA 250 t_bytes)] H → va_D A [(a0, e_X2 a1 t), (a1, eI cA 250 t_bytes)] → va_S A s.heap H locs → lv_has ls 3 [(0, .ref a0), (1, .ref (K sx1))] → W p l e rm_X2_isAtWord s m args below meth c H locs 0 0 Q (F0 m 24 ls []) := by
    intro   H locs ls hm hP hD hS hl
    unfold b_X2_isAtWord_24 at hm
    refine lv_iconst (v := (0 : Int32)) hx hb dX2_isAtWord_24 (by decide) ?_
    rw [hQ]
    exact W.zret (v := (0 : Int32)) hx hb hr rfl (fun t9 ht hW => ⟨⟨(0 : Int32), (), rfl, (Option.some.inj hm), by rw [ht]; exact hP, va_K.moved hW.alike hK, hD⟩, hS.F ht⟩) hS.2.2 dX2_isAtWord_25
  have B_28 : ∀ (n : Nat) (x : Int32) (H : Heap) (locs : List Loc) (ls : Array Slot), lfix (b_X2_isAtWord_28 fu sx1 t t_bytes) n x = some out → va_P D CL [(a0, e_X2 a1 t), (a1, eI cA 250 t_bytes)] H → va_D A [(a0, e_X2 a1 t), (a1, eI cA 250 t_bytes)] → va_S A s.heap H locs → lv_has ls 3 [(0, .ref a0), (1, .ref (K sx1)), (2, .int x)] → W p l e rm_X2_isAtWord s m args below meth c H locs 0 0 Q (F0 m 28 ls []) := by
    intro  n
    induction n with
    | zero => intro x H locs ls hm; cases (show none = some out from hm)
    | succ n HK_28 =>
      intro x H locs ls hm hP hD hS hl
      replace hm : b_X2_isAtWord_28 fu sx1 t t_bytes (lfix (b_X2_isAtWord_28 fu sx1 t t_bytes) n) x = some out := hm
      unfold b_X2_isAtWord_28 at hm
      refine lv_iload_n hx hb dX2_isAtWord_28 rfl (lv_at hl 2 rfl) ?_
      refine lv_aload_n hx hb dX2_isAtWord_29 rfl (lv_at hl 1 rfl) ?_
      refine xr_i (wr := [(a0, e_X2 a1 t), (a1, eI cA 250 t_bytes)]) (wn := [(a0, e_X2 a1 t), (a1, eI cA 250 t_bytes)]) (va_runV (As := []) (rest := [.int x]) ⟨hx, hb, hml, hown, htg⟩ (c_J0_length_8abf5 l D cA K V fv _ sx1 hsx1) (cwV 0 htg (gV q_3_0 q_3_1 q_3_2 q_1_10 q_3_3) rfl rfl rfl hd_J0_length_8abf5 ⟨Nat.le_of_ble_eq_true rfl, Nat.le_of_ble_eq_true rfl⟩) (xpVs hsx1 hSS hS hA hN hK hP hD) rfl rfl hl.1 rfl (lv_room (Nat.le_of_ble_eq_true rfl)) dX2_isAtWord_30 ⟨Nat.zero_le _, Nat.zero_le _⟩) hP hD hS hA [] [0, 1] [0, 1] rfl rfl (by decide) (by decide) rfl (by decide) (fun H locs hP hD hS => ?_)
      refine lv_icmp_ge (tgt := 62) hx hb dX2_isAtWord_33 (by decide) (fun c1 => ?_) (fun c1 => ?_)
      · have hm := it_t c1 hm
        refine lv_iconst (v := (1 : Int32)) hx hb dX2_isAtWord_62 (by decide) ?_
        rw [hQ]
        exact W.zret (v := (1 : Int32)) hx hb hr rfl (fun t9 ht hW => ⟨⟨(1 : Int32), (), rfl, (Option.some.inj hm), by rw [ht]; exact hP, va_K.moved hW.alike hK, hD⟩, hS.F ht⟩) hS.2.2 dX2_isAtWord_63
      · have hm := it_f c1 hm
        refine lv_aload_n hx hb dX2_isAtWord_36 rfl (lv_at hl 0 rfl) ?_
        refine lv_aload_n hx hb dX2_isAtWord_37 rfl (lv_at hl 0 rfl) ?_
        refine va_get (D := D) (ci := 2) (v := .int (t 2)) (C := RX2) (T := TX2) (N := 5) hx hb htg inX2 hown hK hP 0 rfl rfl 2 (by decide) (htg _ q_1_118) (fun _ h9 => h9) rfl dX2_isAtWord_38 ?_
        refine lv_iload_n hx hb dX2_isAtWord_41 rfl (lv_at hl 2 rfl) ?_
        refine lv_iadd hx hb dX2_isAtWord_42 ?_
        obtain ⟨o2, ho3, hm⟩ := bd_s hm
        refine xr_i (wr := []) (wn := [(a0, e_X2 a1 t), (a1, eI cA 250 t_bytes)]) (va_runV (As := [.int (t 2 + x)]) (rest := []) ⟨hx, hb, hml, hown, htg⟩ (c_X2_byteAt l D cA _ fu a0 a1 t t_bytes (t 2 + x) o2 ho3) (cwV 1 htg (gV q_2_224 q_2_226 q_p3_1 q_1_5 q_2_227) rfl rfl rfl hd_X2_byteAt ⟨Nat.le_of_ble_eq_true rfl, Nat.le_of_ble_eq_true rfl⟩) (xpV hN hK hP hD [0, 1] rfl (by decide) rfl rfl) rfl rfl hl.1 rfl (lv_room (Nat.le_of_ble_eq_true rfl)) dX2_isAtWord_43 ⟨Nat.zero_le _, Nat.zero_le _⟩) hP hD hS hA [0, 1] [] [0, 1] rfl rfl (by decide) (by decide) rfl (by decide) (fun H locs hP hD hS => ?_)
        refine lv_aload_n hx hb dX2_isAtWord_46 rfl (lv_at hl 1 rfl) ?_
        refine lv_iload_n hx hb dX2_isAtWord_47 rfl (lv_at hl 2 rfl) ?_
        obtain ⟨hi4, hm⟩ := gd_s hm
        refine xr_i (wr := [(a0, e_X2 a1 t), (a1, eI cA 250 t_bytes)]) (wn := [(a0, e_X2 a1 t), (a1, eI cA 250 t_bytes)]) (va_runV (As := [.int x]) (rest := [.int o2.1]) ⟨hx, hb, hml, hown, htg⟩ (c_J0_charAt_5068e l D cA K V fv _ sx1 hsx1 x hi4) (cwV 1 htg (gV q_3_10 q_3_11 q_3_12 q_1_10 q_3_13) rfl rfl rfl hd_J0_charAt_5068e ⟨Nat.le_of_ble_eq_true rfl, Nat.le_of_ble_eq_true rfl⟩) (xpVs hsx1 hSS hS hA hN hK hP hD) rfl rfl hl.1 rfl (lv_room (Nat.le_of_ble_eq_true rfl)) dX2_isAtWord_48 ⟨Nat.zero_le _, Nat.zero_le _⟩) hP hD hS hA [] [0, 1] [0, 1] rfl rfl (by decide) (by decide) rfl (by decide) (fun H locs hP hD hS => ?_)
        refine lv_icmp_eq (tgt := 56) hx hb dX2_isAtWord_51 (by decide) (fun c5 => ?_) (fun c5 => ?_)
        · have hm := it_t c5 hm
          refine lv_iinc (v := (x + (1 : Int32))) (lv' := [(2, .int (x + (1 : Int32))), (0, .ref a0), (1, .ref (K sx1))]) hx hb dX2_isAtWord_56 hl (k := 2) rfl rfl (by decide) rfl (fun ls hl => ?_)
          refine lv_goto (tgt := 28) hx hb dX2_isAtWord_59 (by decide) ?_
          exact HK_28 _ _ _ _ hm hP hD hS (lv_sub hl [1, 2, 0] rfl)
        · have hm := it_f c5 hm
          refine lv_iconst (v := (0 : Int32)) hx hb dX2_isAtWord_54 (by decide) ?_
          rw [hQ]
          exact W.zret (v := (0 : Int32)) hx hb hr rfl (fun t9 ht hW => ⟨⟨(0 : Int32), (), rfl, (Option.some.inj hm), by rw [ht]; exact hP, va_K.moved hW.alike hK, hD⟩, hS.F ht⟩) hS.2.2 dX2_isAtWord_55
  unfold m_X2_isAtWord at hm
  subst hargs
  have hl := lv_entry ([.ref a0, .ref (K sx1)]) (n := 3) (Nat.le_of_ble_eq_true rfl)
  rw [lg_entry_eq]
  generalize (lg_sl ([.ref a0, .ref (K sx1)]) ++ List.replicate (3 - (lg_sl ([.ref a0, .ref (K sx1)])).length) Slot.unset).toArray = ls at hl ⊢
  have hl : lv_has ls 3 [(0, .ref a0), (1, .ref (K sx1))] := hl
  refine lv_aload_n hx hb dX2_isAtWord_0 rfl (lv_at hl 0 rfl) ?_
  refine va_get (D := D) (ci := 2) (v := .int (t 4)) (C := RX2) (T := TX2) (N := 5) hx hb htg inX2 hown hK hP 0 rfl rfl 4 (by decide) (htg _ q_1_121) (fun _ h9 => h9) rfl dX2_isAtWord_1 ?_
  refine lv_iconst (v := (1 : Int32)) hx hb dX2_isAtWord_4 (by decide) ?_
  refine lv_icmp_ne (tgt := 24) hx hb dX2_isAtWord_5 (by decide) (fun c6 => ?_) (fun c6 => ?_)
  · have hm := it_f c6 hm
    exact B_24  _ _ _ hm hP hD hS (lv_sub hl [0, 1] rfl)
  · have hm := it_t c6 hm
    refine lv_aload_n hx hb dX2_isAtWord_8 rfl (lv_at hl 0 rfl) ?_
    refine va_get (D := D) (ci := 2) (v := .int (t 3)) (C := RX2) (T := TX2) (N := 5) hx hb htg inX2 hown hK hP 0 rfl rfl 3 (by decide) (htg _ q_1_120) (fun _ h9 => h9) rfl dX2_isAtWord_9 ?_
    refine lv_aload_n hx hb dX2_isAtWord_12 rfl (lv_at hl 0 rfl) ?_
    refine va_get (D := D) (ci := 2) (v := .int (t 2)) (C := RX2) (T := TX2) (N := 5) hx hb htg inX2 hown hK hP 0 rfl rfl 2 (by decide) (htg _ q_1_118) (fun _ h9 => h9) rfl dX2_isAtWord_13 ?_
    refine lv_isub hx hb dX2_isAtWord_16 ?_
    refine lv_aload_n hx hb dX2_isAtWord_17 rfl (lv_at hl 1 rfl) ?_
    refine xr_i (wr := [(a0, e_X2 a1 t), (a1, eI cA 250 t_bytes)]) (wn := [(a0, e_X2 a1 t), (a1, eI cA 250 t_bytes)]) (va_runV (As := []) (rest := [.int (t 3 - t 2)]) ⟨hx, hb, hml, hown, htg⟩ (c_J0_length_8abf5 l D cA K V fv _ sx1 hsx1) (cwV 0 htg (gV q_3_0 q_3_1 q_3_2 q_1_10 q_3_3) rfl rfl rfl hd_J0_length_8abf5 ⟨Nat.le_of_ble_eq_true rfl, Nat.le_of_ble_eq_true rfl⟩) (xpVs hsx1 hSS hS hA hN hK hP hD) rfl rfl hl.1 rfl (lv_room (Nat.le_of_ble_eq_true rfl)) dX2_isAtWord_18 ⟨Nat.zero_le _, Nat.zero_le _⟩) hP hD hS hA [] [0, 1] [0, 1] rfl rfl (by decide) (by decide) rfl (by decide) (fun H locs hP hD hS => ?_)
    refine lv_icmp_eq (tgt := 26) hx hb dX2_isAtWord_21 (by decide) (fun c7 => ?_) (fun c7 => ?_)
    · have hm := it_t c7 hm
      refine lv_iconst (v := (0 : Int32)) hx hb dX2_isAtWord_26 (by decide) ?_
      refine lv_istore_n (lv' := [(2, .int (0 : Int32)), (0, .ref a0), (1, .ref (K sx1))]) hx hb dX2_isAtWord_27 rfl hl (by decide) rfl (fun ls hl => ?_)
      exact B_28 fu _ _ _ _ hm hP hD hS (lv_sub hl [1, 2, 0] rfl)
    · have hm := it_f c7 hm
      exact B_24  _ _ _ hm hP hD hS (lv_sub hl [0, 1] rfl)
def b_X2_readStatement_144 (fu : Nat) (t_bytes : Nat → Int32) (s0 : Int32) (t : Nat → Int32) (p1 : Nat → Int32) (p1_kinds : Nat → Int32) (p1_as : Nat → Int32) (p1_pitches : Nat → Int32) : Option (Int32 × ((Nat → Int32) × (Nat → Int32) × (Nat → Int32) × (Nat → Int32) × (Nat → Int32))) :=
  gd (bz s0) (some (s0, (t, p1, p1_kinds, p1_as, p1_pitches)))
def b_X2_readStatement_110 (fu : Nat) (t_bytes : Nat → Int32) (s0 : Int32) (t : Nat → Int32) (p1 : Nat → Int32) (p1_kinds : Nat → Int32) (p1_as : Nat → Int32) (p1_pitches : Nat → Int32) : Option (Int32 × ((Nat → Int32) × (Nat → Int32) × (Nat → Int32) × (Nat → Int32) × (Nat → Int32))) :=
  gd (bz s0) (some (s0, (t, p1, p1_kinds, p1_as, p1_pitches)))
def b_X2_readStatement_77 (fu : Nat) (t_bytes : Nat → Int32) (s0 : Int32) (t : Nat → Int32) (p1 : Nat → Int32) (p1_kinds : Nat → Int32) (p1_as : Nat → Int32) (p1_pitches : Nat → Int32) : Option (Int32 × ((Nat → Int32) × (Nat → Int32) × (Nat → Int32) × (Nat → Int32) × (Nat → Int32))) :=
  gd (bz s0) (some (s0, (t, p1, p1_kinds, p1_as, p1_pitches)))
def m_X2_readStatement (fu : Nat) (t : Nat → Int32) (t_bytes : Nat → Int32) (p1 : Nat → Int32) (p1_kinds : Nat → Int32) (p1_as : Nat → Int32) (p1_pitches : Nat → Int32) : Option (Int32 × ((Nat → Int32) × (Nat → Int32) × (Nat → Int32) × (Nat → Int32) × (Nat → Int32))) :=
  (m_X2_isAtWord fu 0 t t_bytes).bind fun o4 =>
  (if o4.1 = 0 then
    (m_X2_isAtWord fu 1 t t_bytes).bind fun o7 =>
    (if o7.1 = 0 then
      (m_X2_isAtWord fu 2 t t_bytes).bind fun o10 =>
      (if o10.1 = 0 then
        (m_X2_isAtWord fu 3 t t_bytes).bind fun o13 =>
        (if o13.1 = 0 then
          (m_X2_isAtWord fu 4 t t_bytes).bind fun o16 =>
          (if o16.1 = 0 then
            (m_X2_isAtWord fu 5 t t_bytes).bind fun o19 =>
            (if o19.1 = 0 then
              some ((0 : Int32), (t, p1, p1_kinds, p1_as, p1_pitches))
            else
              (m_X2_readNumber fu t t_bytes (0 : Int32) (999 : Int32)).bind fun o22 =>
              (if o22.1 = (-1 : Int32) then
                b_X2_readStatement_144 fu t_bytes (0 : Int32) o22.2 (upd p1 2 o22.1) p1_kinds p1_as p1_pitches
              else
                b_X2_readStatement_144 fu t_bytes (1 : Int32) o22.2 (upd p1 2 o22.1) p1_kinds p1_as p1_pitches))
          else
            (m_X2_readNumber fu t t_bytes (0 : Int32) (9 : Int32)).bind fun o25 =>
            (if o25.1 = (-1 : Int32) then
              b_X2_readStatement_110 fu t_bytes (0 : Int32) o25.2 (upd p1 1 o25.1) p1_kinds p1_as p1_pitches
            else
              b_X2_readStatement_110 fu t_bytes (1 : Int32) o25.2 (upd p1 1 o25.1) p1_kinds p1_as p1_pitches))
        else
          (m_X2_readNumber fu t t_bytes (0 : Int32) (40 : Int32)).bind fun o28 =>
          (if o28.1 = (-1 : Int32) then
            b_X2_readStatement_77 fu t_bytes (0 : Int32) o28.2 (upd p1 0 o28.1) p1_kinds p1_as p1_pitches
          else
            b_X2_readStatement_77 fu t_bytes (1 : Int32) o28.2 (upd p1 0 o28.1) p1_kinds p1_as p1_pitches))
      else
        (m_X2_readWeight fu t t_bytes p1).bind fun o31 =>
        gd (bz o31.1) (some (o31.1, (o31.2.1, o31.2.2, p1_kinds, p1_as, p1_pitches))))
    else
      (m_X2_readPitch fu t t_bytes p1 p1_pitches).bind fun o34 =>
      gd (bz o34.1) (some (o34.1, (o34.2.1, p1, p1_kinds, p1_as, o34.2.2))))
  else
    (m_X2_readVoice fu t t_bytes p1 p1_kinds p1_as p1_pitches).bind fun o37 =>
    gd (bz o37.1) (some (o37.1, (o37.2.1, o37.2.2.1, o37.2.2.2.1, o37.2.2.2.2.1, o37.2.2.2.2.2))))
abbrev rm_X2_readStatement : Room := ({ frames := 5, cells := 0, slots := 0, locals := 107 } : Room)
abbrev w0_X2_readStatement (cA : Nat → ClassId) (a0 : Nat) (a1 : Nat) (p1a0 : Nat) (p1a1 : Nat) (p1a2 : Nat) (p1a3 : Nat) (t : Nat → Int32) (t_bytes : Nat → Int32) (p1 : Nat → Int32) (p1_kinds : Nat → Int32) (p1_as : Nat → Int32) (p1_pitches : Nat → Int32) : va_W := [(a0, e_X2 a1 t), (a1, eI cA 250 t_bytes), (p1a0, e_X1 p1a1 p1a2 p1a3 p1), (p1a1, eI cA 8 p1_kinds), (p1a2, eI cA 8 p1_as), (p1a3, eI cA 8 p1_pitches)]
abbrev w1_X2_readStatement (cA : Nat → ClassId) (a0 : Nat) (a1 : Nat) (p1a0 : Nat) (p1a1 : Nat) (p1a2 : Nat) (p1a3 : Nat) (t_bytes : Nat → Int32) (u : (Nat → Int32) × (Nat → Int32) × (Nat → Int32) × (Nat → Int32) × (Nat → Int32)) : va_W := [(a0, e_X2 a1 u.1), (a1, eI cA 250 t_bytes), (p1a0, e_X1 p1a1 p1a2 p1a3 u.2.1), (p1a1, eI cA 8 u.2.2.1), (p1a2, eI cA 8 u.2.2.2.1), (p1a3, eI cA 8 u.2.2.2.2)]
theorem hd_X2_readStatement : yX2_readStatement.cls = RX2 ∧ yX2_readStatement.cls ≠ "java/lang/invoke/MethodHandle" ∧ yX2_readStatement.cls ≠ "java/lang/invoke/VarHandle" ∧ (parseMethodDescriptor yX2_readStatement.desc).map (fun d => d.parameters.length) = some 1 := by decide +kernel
set_option maxHeartbeats 40000000 in
set_option maxRecDepth 100000 in
theorem c_X2_readStatement (l : Launch) (D : va_G) (cA : Nat → ClassId) (K V : Nat → Nat) (fv : Value) (sz : Nat) (fu : Nat) (a0 : Nat) (a1 : Nat) (p1a0 : Nat) (p1a1 : Nat) (p1a2 : Nat) (p1a3 : Nat) (t : Nat → Int32) (t_bytes : Nat → Int32) (p1 : Nat → Int32) (p1_kinds : Nat → Int32) (p1_as : Nat → Int32) (p1_pitches : Nat → Int32) (out : Int32 × ((Nat → Int32) × (Nat → Int32) × (Nat → Int32) × (Nat → Int32) × (Nat → Int32))) (hm : m_X2_readStatement fu t t_bytes p1 p1_kinds p1_as p1_pitches = some out) : MI1 l yX2_readStatement (wU yX2_readStatement cX2_readStatement 3 ((Option.some Jvm.ClassFile.FieldType.boolean))) rm_X2_readStatement D cA K V fv sz [.ref a0, .ref p1a0] (w0_X2_readStatement cA a0 a1 p1a0 p1a1 p1a2 p1a3 t t_bytes p1 p1_kinds p1_as p1_pitches) out (w1_X2_readStatement cA a0 a1 p1a0 p1a1 p1a2 p1a3 t_bytes) := by
  refine Met.ofW (cc := cX2_readStatement) (maxL := 3) (ret := (Option.some Jvm.ClassFile.FieldType.boolean)) (by decide) rfl ?_
  intro p e s m args below meth c s₁ B hml hv
  obtain ⟨hargs, ⟨hsz, hP, hK, hD0, hN⟩, hSS⟩ := hv
  have hx := B.exec
  have hb := B.bytes
  have hr := B.returns
  have htg : ∀ w ∈ gw, w.before args s = true := fun w h => atoms_spec (ws := wU yX2_readStatement cX2_readStatement 3 ((Option.some Jvm.ClassFile.FieldType.boolean))) B.pre w (List.mem_cons_of_mem _ h)
  have hown : s.vm.findClass RX2 = some m.cls := findClass_of_methodNamed B.named
  have hlocks := B.notSynchronized
  subst hsz
  have hD := hD0.self (sz := s.heap.size)
  have hA : ∀ q : Nat, s.heap.size ≤ q → va_A (w0_X2_readStatement cA a0 a1 p1a0 p1a1 p1a2 p1a3 t t_bytes p1 p1_kinds p1_as p1_pitches) s.heap.size q := fun q h => Or.inr h
  have hS : va_S (va_A (w0_X2_readStatement cA a0 a1 p1a0 p1a1 p1a2 p1a3 t t_bytes p1 p1_kinds p1_as p1_pitches) s.heap.size) s.heap s.heap [] := va_S.rf
  generalize va_A (w0_X2_readStatement cA a0 a1 p1a0 p1a1 p1a2 p1a3 t t_bytes p1 p1_kinds p1_as p1_pitches) s.heap.size = A at hA hD hS hSS ⊢
  obtain ⟨Q, hQ⟩ : ∃ Q : State → Prop, Q = MQ below (va_Qi (fun (r : Int32) (u : (Nat → Int32) × (Nat → Int32) × (Nat → Int32) × (Nat → Int32) × (Nat → Int32)) => (r, u) = out) (pst0 D cA A (w1_X2_readStatement cA a0 a1 p1a0 p1a1 p1a2 p1a3 t_bytes)) A) args s 0 0 A := ⟨_, rfl⟩
  refine (?_ : W p l e rm_X2_readStatement s m args below meth c s.heap [] 0 0 (MQ below (va_Qi (fun (r : Int32) (u : (Nat → Int32) × (Nat → Int32) × (Nat → Int32) × (Nat → Int32) × (Nat → Int32)) => (r, u) = out) (pst0 D cA A (w1_X2_readStatement cA a0 a1 p1a0 p1a1 p1a2 p1a3 t_bytes)) A) args s 0 0 A) (entryFrame m args 3))
  rw [← hQ]
  have hP : va_P D CL [(a0, e_X2 a1 t), (a1, eI cA 250 t_bytes), (p1a0, e_X1 p1a1 p1a2 p1a3 p1), (p1a1, eI cA 8 p1_kinds), (p1a2, eI cA 8 p1_as), (p1a3, eI cA 8 p1_pitches)] s.heap := hP
  have hD : va_D A [(a0, e_X2 a1 t), (a1, eI cA 250 t_bytes), (p1a0, e_X1 p1a1 p1a2 p1a3 p1), (p1a1, eI cA 8 p1_kinds), (p1a2, eI cA 8 p1_as), (p1a3, eI cA 8 p1_pitches)] := hD
  have B_144 : ∀ (s0 : Int32) (t : Nat → Int32) (p1 : Nat → Int32) (p1_kinds : Nat → Int32) (p1_as : Nat → Int32) (p1_pitches : Nat → Int32) (H : Heap) (locs : List Loc) (ls : Array Slot), b_X2_readStatement_144 fu t_bytes s0 t p1 p1_kinds p1_as p1_pitches = some out → va_P D CL [(a0, e_X2 a1 t), (a1, eI cA 250 t_bytes), (p1a0, e_X1 p1a1 p1a2 p1a3 p1), (p1a1, eI cA 8 p1_kinds), (p1a2, eI cA 8 p1_as), (p1a3, eI cA 8 p1_pitches)] H → va_D A [(a0, e_X2 a1 t), (a1, eI cA 250 t_bytes), (p1a0, e_X1 p1a1 p1a2 p1a3 p1), (p1a1, eI cA 8 p1_kinds), (p1a2, eI cA 8 p1_as), (p1a3, eI cA 8 p1_pitches)] → va_S A s.heap H locs → lv_has ls 3 [(0, .ref a0), (1, .ref p1a0)] → W p l e rm_X2_readStatement s m args below meth c H locs 0 0 Q (F0 m 144 ls [.int s0]) := by
    intro  s0 t p1 p1_kinds p1_as p1_pitches H locs ls hm hP hD hS hl
    unfold b_X2_readStatement_144 at hm
    obtain ⟨hz1, hm⟩ := gd_s hm
    rw [hQ]
    exact W.zret (v := s0) hx hb hr (bz_nr hz1) (fun t9 ht hW => ⟨⟨s0, (t, p1, p1_kinds, p1_as, p1_pitches), rfl, (Option.some.inj hm), by rw [ht]; exact hP, va_K.moved hW.alike hK, hD⟩, hS.F ht⟩) hS.2.2 dX2_readStatement_144
  have B_110 : ∀ (s0 : Int32) (t : Nat → Int32) (p1 : Nat → Int32) (p1_kinds : Nat → Int32) (p1_as : Nat → Int32) (p1_pitches : Nat → Int32) (H : Heap) (locs : List Loc) (ls : Array Slot), b_X2_readStatement_110 fu t_bytes s0 t p1 p1_kinds p1_as p1_pitches = some out → va_P D CL [(a0, e_X2 a1 t), (a1, eI cA 250 t_bytes), (p1a0, e_X1 p1a1 p1a2 p1a3 p1), (p1a1, eI cA 8 p1_kinds), (p1a2, eI cA 8 p1_as), (p1a3, eI cA 8 p1_pitches)] H → va_D A [(a0, e_X2 a1 t), (a1, eI cA 250 t_bytes), (p1a0, e_X1 p1a1 p1a2 p1a3 p1), (p1a1, eI cA 8 p1_kinds), (p1a2, eI cA 8 p1_as), (p1a3, eI cA 8 p1_pitches)] → va_S A s.heap H locs → lv_has ls 3 [(0, .ref a0), (1, .ref p1a0)] → W p l e rm_X2_readStatement s m args below meth c H locs 0 0 Q (F0 m 110 ls [.int s0]) := by
    intro  s0 t p1 p1_kinds p1_as p1_pitches H locs ls hm hP hD hS hl
    unfold b_X2_readStatement_110 at hm
    obtain ⟨hz2, hm⟩ := gd_s hm
    rw [hQ]
    exact W.zret (v := s0) hx hb hr (bz_nr hz2) (fun t9 ht hW => ⟨⟨s0, (t, p1, p1_kinds, p1_as, p1_pitches), rfl, (Option.some.inj hm), by rw [ht]; exact hP, va_K.moved hW.alike hK, hD⟩, hS.F ht⟩) hS.2.2 dX2_readStatement_110
  have B_77 : ∀ (s0 : Int32) (t : Nat → Int32) (p1 : Nat → Int32) (p1_kinds : Nat → Int32) (p1_as : Nat → Int32) (p1_pitches : Nat → Int32) (H : Heap) (locs : List Loc) (ls : Array Slot), b_X2_readStatement_77 fu t_bytes s0 t p1 p1_kinds p1_as p1_pitches = some out → va_P D CL [(a0, e_X2 a1 t), (a1, eI cA 250 t_bytes), (p1a0, e_X1 p1a1 p1a2 p1a3 p1), (p1a1, eI cA 8 p1_kinds), (p1a2, eI cA 8 p1_as), (p1a3, eI cA 8 p1_pitches)] H → va_D A [(a0, e_X2 a1 t), (a1, eI cA 250 t_bytes), (p1a0, e_X1 p1a1 p1a2 p1a3 p1), (p1a1, eI cA 8 p1_kinds), (p1a2, eI cA 8 p1_as), (p1a3, eI cA 8 p1_pitches)] → va_S A s.heap H locs → lv_has ls 3 [(0, .ref a0), (1, .ref p1a0)] → W p l e rm_X2_readStatement s m args below meth c H locs 0 0 Q (F0 m 77 ls [.int s0]) := by
    intro  s0 t p1 p1_kinds p1_as p1_pitches H locs ls hm hP hD hS hl
    unfold b_X2_readStatement_77 at hm
    obtain ⟨hz3, hm⟩ := gd_s hm
    rw [hQ]
    exact W.zret (v := s0) hx hb hr (bz_nr hz3) (fun t9 ht hW => ⟨⟨s0, (t, p1, p1_kinds, p1_as, p1_pitches), rfl, (Option.some.inj hm), by rw [ht]; exact hP, va_K.moved hW.alike hK, hD⟩, hS.F ht⟩) hS.2.2 dX2_readStatement_77
  unfold m_X2_readStatement at hm
  subst hargs
  have hl := lv_entry ([.ref a0, .ref p1a0]) (n := 3) (Nat.le_of_ble_eq_true rfl)
  rw [lg_entry_eq]
  generalize (lg_sl ([.ref a0, .ref p1a0]) ++ List.replicate (3 - (lg_sl ([.ref a0, .ref p1a0])).length) Slot.unset).toArray = ls at hl ⊢
  have hl : lv_has ls 3 [(0, .ref a0), (1, .ref p1a0)] := hl
  refine lv_aload_n hx hb dX2_readStatement_0 rfl (lv_at hl 0 rfl) ?_
  refine va_ldcS hx hb hown (hSS.2.2.2.2 ("WellIsAskedFirst$Tape", 46, "voice", 0) (List.mem_of_getElem? (i := 0) rfl)) dX2_readStatement_1 ?_
  obtain ⟨o4, ho5, hm⟩ := bd_s hm
  refine xr_i (wr := [(p1a0, e_X1 p1a1 p1a2 p1a3 p1), (p1a1, eI cA 8 p1_kinds), (p1a2, eI cA 8 p1_as), (p1a3, eI cA 8 p1_pitches)]) (wn := [(a0, e_X2 a1 t), (a1, eI cA 250 t_bytes), (p1a0, e_X1 p1a1 p1a2 p1a3 p1), (p1a1, eI cA 8 p1_kinds), (p1a2, eI cA 8 p1_as), (p1a3, eI cA 8 p1_pitches)]) (va_runV (As := [.ref (K 0)]) (rest := []) ⟨hx, hb, hml, hown, htg⟩ (c_X2_isAtWord l D cA K V fv _ fu a0 a1 0 t t_bytes (by decide) o4 ho5) (cwV 1 htg (gV q_2_236 q_2_238 q_p3_3 q_1_5 q_2_239) rfl rfl rfl hd_X2_isAtWord ⟨Nat.le_of_ble_eq_true rfl, Nat.le_of_ble_eq_true rfl⟩) (xpV1 hSS hS hA hN hK hP hD [0, 1] rfl (by decide) rfl rfl) rfl rfl hl.1 rfl (lv_room (Nat.le_of_ble_eq_true rfl)) dX2_readStatement_3 ⟨Nat.zero_le _, Nat.zero_le _⟩) hP hD hS hA [0, 1] [2, 3, 4, 5] [4, 5, 0, 1, 2, 3] rfl rfl (by decide) (by decide) rfl (by decide) (fun H locs hP hD hS => ?_)
  refine lv_if_eq (tgt := 15) hx hb dX2_readStatement_6 (by decide) (fun c6 => ?_) (fun c6 => ?_)
  · have hm := it_t c6 hm
    refine lv_aload_n hx hb dX2_readStatement_15 rfl (lv_at hl 0 rfl) ?_
    refine va_ldcS hx hb hown (hSS.2.2.2.2 ("WellIsAskedFirst$Tape", 55, "pitch", 1) (List.mem_of_getElem? (i := 1) rfl)) dX2_readStatement_16 ?_
    obtain ⟨o7, ho8, hm⟩ := bd_s hm
    refine xr_i (wr := [(p1a0, e_X1 p1a1 p1a2 p1a3 p1), (p1a1, eI cA 8 p1_kinds), (p1a2, eI cA 8 p1_as), (p1a3, eI cA 8 p1_pitches)]) (wn := [(a0, e_X2 a1 t), (a1, eI cA 250 t_bytes), (p1a0, e_X1 p1a1 p1a2 p1a3 p1), (p1a1, eI cA 8 p1_kinds), (p1a2, eI cA 8 p1_as), (p1a3, eI cA 8 p1_pitches)]) (va_runV (As := [.ref (K 1)]) (rest := []) ⟨hx, hb, hml, hown, htg⟩ (c_X2_isAtWord l D cA K V fv _ fu a0 a1 1 t t_bytes (by decide) o7 ho8) (cwV 1 htg (gV q_2_236 q_2_238 q_p3_3 q_1_5 q_2_239) rfl rfl rfl hd_X2_isAtWord ⟨Nat.le_of_ble_eq_true rfl, Nat.le_of_ble_eq_true rfl⟩) (xpV1 hSS hS hA hN hK hP hD [0, 1] rfl (by decide) rfl rfl) rfl rfl hl.1 rfl (lv_room (Nat.le_of_ble_eq_true rfl)) dX2_readStatement_18 ⟨Nat.zero_le _, Nat.zero_le _⟩) hP hD hS hA [0, 1] [2, 3, 4, 5] [4, 5, 0, 1, 2, 3] rfl rfl (by decide) (by decide) rfl (by decide) (fun H locs hP hD hS => ?_)
    refine lv_if_eq (tgt := 30) hx hb dX2_readStatement_21 (by decide) (fun c9 => ?_) (fun c9 => ?_)
    · have hm := it_t c9 hm
      refine lv_aload_n hx hb dX2_readStatement_30 rfl (lv_at hl 0 rfl) ?_
      refine va_ldcS hx hb hown (hSS.2.2.2.2 ("WellIsAskedFirst$Tape", 60, "weigh", 2) (List.mem_of_getElem? (i := 2) rfl)) dX2_readStatement_31 ?_
      obtain ⟨o10, ho11, hm⟩ := bd_s hm
      refine xr_i (wr := [(p1a0, e_X1 p1a1 p1a2 p1a3 p1), (p1a1, eI cA 8 p1_kinds), (p1a2, eI cA 8 p1_as), (p1a3, eI cA 8 p1_pitches)]) (wn := [(a0, e_X2 a1 t), (a1, eI cA 250 t_bytes), (p1a0, e_X1 p1a1 p1a2 p1a3 p1), (p1a1, eI cA 8 p1_kinds), (p1a2, eI cA 8 p1_as), (p1a3, eI cA 8 p1_pitches)]) (va_runV (As := [.ref (K 2)]) (rest := []) ⟨hx, hb, hml, hown, htg⟩ (c_X2_isAtWord l D cA K V fv _ fu a0 a1 2 t t_bytes (by decide) o10 ho11) (cwV 1 htg (gV q_2_236 q_2_238 q_p3_3 q_1_5 q_2_239) rfl rfl rfl hd_X2_isAtWord ⟨Nat.le_of_ble_eq_true rfl, Nat.le_of_ble_eq_true rfl⟩) (xpV1 hSS hS hA hN hK hP hD [0, 1] rfl (by decide) rfl rfl) rfl rfl hl.1 rfl (lv_room (Nat.le_of_ble_eq_true rfl)) dX2_readStatement_33 ⟨Nat.zero_le _, Nat.zero_le _⟩) hP hD hS hA [0, 1] [2, 3, 4, 5] [4, 5, 0, 1, 2, 3] rfl rfl (by decide) (by decide) rfl (by decide) (fun H locs hP hD hS => ?_)
      refine lv_if_eq (tgt := 45) hx hb dX2_readStatement_36 (by decide) (fun c12 => ?_) (fun c12 => ?_)
      · have hm := it_t c12 hm
        refine lv_aload_n hx hb dX2_readStatement_45 rfl (lv_at hl 0 rfl) ?_
        refine va_ldcS hx hb hown (hSS.2.2.2.2 ("WellIsAskedFirst$Tape", 65, "depth", 3) (List.mem_of_getElem? (i := 3) rfl)) dX2_readStatement_46 ?_
        obtain ⟨o13, ho14, hm⟩ := bd_s hm
        refine xr_i (wr := [(p1a0, e_X1 p1a1 p1a2 p1a3 p1), (p1a1, eI cA 8 p1_kinds), (p1a2, eI cA 8 p1_as), (p1a3, eI cA 8 p1_pitches)]) (wn := [(a0, e_X2 a1 t), (a1, eI cA 250 t_bytes), (p1a0, e_X1 p1a1 p1a2 p1a3 p1), (p1a1, eI cA 8 p1_kinds), (p1a2, eI cA 8 p1_as), (p1a3, eI cA 8 p1_pitches)]) (va_runV (As := [.ref (K 3)]) (rest := []) ⟨hx, hb, hml, hown, htg⟩ (c_X2_isAtWord l D cA K V fv _ fu a0 a1 3 t t_bytes (by decide) o13 ho14) (cwV 1 htg (gV q_2_236 q_2_238 q_p3_3 q_1_5 q_2_239) rfl rfl rfl hd_X2_isAtWord ⟨Nat.le_of_ble_eq_true rfl, Nat.le_of_ble_eq_true rfl⟩) (xpV1 hSS hS hA hN hK hP hD [0, 1] rfl (by decide) rfl rfl) rfl rfl hl.1 rfl (lv_room (Nat.le_of_ble_eq_true rfl)) dX2_readStatement_48 ⟨Nat.zero_le _, Nat.zero_le _⟩) hP hD hS hA [0, 1] [2, 3, 4, 5] [4, 5, 0, 1, 2, 3] rfl rfl (by decide) (by decide) rfl (by decide) (fun H locs hP hD hS => ?_)
        refine lv_if_eq (tgt := 78) hx hb dX2_readStatement_51 (by decide) (fun c15 => ?_) (fun c15 => ?_)
        · have hm := it_t c15 hm
          refine lv_aload_n hx hb dX2_readStatement_78 rfl (lv_at hl 0 rfl) ?_
          refine va_ldcS hx hb hown (hSS.2.2.2.2 ("WellIsAskedFirst$Tape", 75, "rain", 4) (List.mem_of_getElem? (i := 4) rfl)) dX2_readStatement_79 ?_
          obtain ⟨o16, ho17, hm⟩ := bd_s hm
          refine xr_i (wr := [(p1a0, e_X1 p1a1 p1a2 p1a3 p1), (p1a1, eI cA 8 p1_kinds), (p1a2, eI cA 8 p1_as), (p1a3, eI cA 8 p1_pitches)]) (wn := [(a0, e_X2 a1 t), (a1, eI cA 250 t_bytes), (p1a0, e_X1 p1a1 p1a2 p1a3 p1), (p1a1, eI cA 8 p1_kinds), (p1a2, eI cA 8 p1_as), (p1a3, eI cA 8 p1_pitches)]) (va_runV (As := [.ref (K 4)]) (rest := []) ⟨hx, hb, hml, hown, htg⟩ (c_X2_isAtWord l D cA K V fv _ fu a0 a1 4 t t_bytes (by decide) o16 ho17) (cwV 1 htg (gV q_2_236 q_2_238 q_p3_3 q_1_5 q_2_239) rfl rfl rfl hd_X2_isAtWord ⟨Nat.le_of_ble_eq_true rfl, Nat.le_of_ble_eq_true rfl⟩) (xpV1 hSS hS hA hN hK hP hD [0, 1] rfl (by decide) rfl rfl) rfl rfl hl.1 rfl (lv_room (Nat.le_of_ble_eq_true rfl)) dX2_readStatement_81 ⟨Nat.zero_le _, Nat.zero_le _⟩) hP hD hS hA [0, 1] [2, 3, 4, 5] [4, 5, 0, 1, 2, 3] rfl rfl (by decide) (by decide) rfl (by decide) (fun H locs hP hD hS => ?_)
          refine lv_if_eq (tgt := 111) hx hb dX2_readStatement_84 (by decide) (fun c18 => ?_) (fun c18 => ?_)
          · have hm := it_t c18 hm
            refine lv_aload_n hx hb dX2_readStatement_111 rfl (lv_at hl 0 rfl) ?_
            refine va_ldcS hx hb hown (hSS.2.2.2.2 ("WellIsAskedFirst$Tape", 79, "day", 5) (List.mem_of_getElem? (i := 5) rfl)) dX2_readStatement_112 ?_
            obtain ⟨o19, ho20, hm⟩ := bd_s hm
            refine xr_i (wr := [(p1a0, e_X1 p1a1 p1a2 p1a3 p1), (p1a1, eI cA 8 p1_kinds), (p1a2, eI cA 8 p1_as), (p1a3, eI cA 8 p1_pitches)]) (wn := [(a0, e_X2 a1 t), (a1, eI cA 250 t_bytes), (p1a0, e_X1 p1a1 p1a2 p1a3 p1), (p1a1, eI cA 8 p1_kinds), (p1a2, eI cA 8 p1_as), (p1a3, eI cA 8 p1_pitches)]) (va_runV (As := [.ref (K 5)]) (rest := []) ⟨hx, hb, hml, hown, htg⟩ (c_X2_isAtWord l D cA K V fv _ fu a0 a1 5 t t_bytes (by decide) o19 ho20) (cwV 1 htg (gV q_2_236 q_2_238 q_p3_3 q_1_5 q_2_239) rfl rfl rfl hd_X2_isAtWord ⟨Nat.le_of_ble_eq_true rfl, Nat.le_of_ble_eq_true rfl⟩) (xpV1 hSS hS hA hN hK hP hD [0, 1] rfl (by decide) rfl rfl) rfl rfl hl.1 rfl (lv_room (Nat.le_of_ble_eq_true rfl)) dX2_readStatement_114 ⟨Nat.zero_le _, Nat.zero_le _⟩) hP hD hS hA [0, 1] [2, 3, 4, 5] [4, 5, 0, 1, 2, 3] rfl rfl (by decide) (by decide) rfl (by decide) (fun H locs hP hD hS => ?_)
            refine lv_if_eq (tgt := 145) hx hb dX2_readStatement_117 (by decide) (fun c21 => ?_) (fun c21 => ?_)
            · have hm := it_t c21 hm
              refine lv_iconst (v := (0 : Int32)) hx hb dX2_readStatement_145 (by decide) ?_
              rw [hQ]
              exact W.zret (v := (0 : Int32)) hx hb hr rfl (fun t9 ht hW => ⟨⟨(0 : Int32), (t, p1, p1_kinds, p1_as, p1_pitches), rfl, (Option.some.inj hm), by rw [ht]; exact hP, va_K.moved hW.alike hK, hD⟩, hS.F ht⟩) hS.2.2 dX2_readStatement_146
            · have hm := it_f c21 hm
              refine lv_aload_n hx hb dX2_readStatement_120 rfl (lv_at hl 0 rfl) ?_
              refine lv_iconst (v := (0 : Int32)) hx hb dX2_readStatement_121 (by decide) ?_
              refine lv_sipush (v := (999 : Int32)) hx hb dX2_readStatement_122 (by decide) ?_
              obtain ⟨o22, ho23, hm⟩ := bd_s hm
              refine xr_i (wr := [(p1a0, e_X1 p1a1 p1a2 p1a3 p1), (p1a1, eI cA 8 p1_kinds), (p1a2, eI cA 8 p1_as), (p1a3, eI cA 8 p1_pitches)]) (wn := [(a0, e_X2 a1 o22.2), (a1, eI cA 250 t_bytes), (p1a0, e_X1 p1a1 p1a2 p1a3 p1), (p1a1, eI cA 8 p1_kinds), (p1a2, eI cA 8 p1_as), (p1a3, eI cA 8 p1_pitches)]) (va_runV (As := [.int (0 : Int32), .int (999 : Int32)]) (rest := []) ⟨hx, hb, hml, hown, htg⟩ (c_X2_readNumber l D cA _ fu a0 a1 t t_bytes (0 : Int32) (999 : Int32) o22 ho23) (cwV 2 htg (gV q_3_53 q_3_55 q_p3_5 q_1_5 q_3_56) rfl rfl rfl hd_X2_readNumber ⟨Nat.le_of_ble_eq_true rfl, Nat.le_of_ble_eq_true rfl⟩) (xpV hN hK hP hD [0, 1] rfl (by decide) rfl rfl) rfl rfl hl.1 rfl (lv_room (Nat.le_of_ble_eq_true rfl)) dX2_readStatement_125 ⟨Nat.zero_le _, Nat.zero_le _⟩) hP hD hS hA [0, 1] [2, 3, 4, 5] [4, 5, 0, 1, 2, 3] rfl rfl (by decide) (by decide) rfl (by decide) (fun H locs hP hD hS => ?_)
              refine lv_istore_n (lv' := [(2, .int o22.1), (0, .ref a0), (1, .ref p1a0)]) hx hb dX2_readStatement_128 rfl hl (by decide) rfl (fun ls hl => ?_)
              refine lv_aload_n hx hb dX2_readStatement_129 rfl (lv_at hl 2 rfl) ?_
              refine lv_iload_n hx hb dX2_readStatement_130 rfl (lv_at hl 0 rfl) ?_
              refine va_putN (D := D) (ci := 1) (v := .int o22.1) (ty := .int) (C := RX1) (T := TX1) (N := 12) hx hb htg inX1 tyX1 tyX1_ok nmX1 hown hK hP hD hS 2 rfl rfl 2 (by decide) (va_Nw.use rfl (hN _ q_1_41)) (fun _ h9 => h9) rfl (by decide +kernel) rfl rfl (Nat.le_of_ble_eq_true rfl) dX2_readStatement_131 (fun H locs (hP : va_P D CL [(a0, e_X2 a1 o22.2), (a1, eI cA 250 t_bytes), (p1a0, e_X1 p1a1 p1a2 p1a3 (upd p1 2 o22.1)), (p1a1, eI cA 8 p1_kinds), (p1a2, eI cA 8 p1_as), (p1a3, eI cA 8 p1_pitches)] H) (hD : va_D A [(a0, e_X2 a1 o22.2), (a1, eI cA 250 t_bytes), (p1a0, e_X1 p1a1 p1a2 p1a3 (upd p1 2 o22.1)), (p1a1, eI cA 8 p1_kinds), (p1a2, eI cA 8 p1_as), (p1a3, eI cA 8 p1_pitches)]) hS => ?_)
              refine lv_iload_n hx hb dX2_readStatement_134 rfl (lv_at hl 0 rfl) ?_
              refine lv_iconst (v := (-1 : Int32)) hx hb dX2_readStatement_135 (by decide) ?_
              refine lv_icmp_eq (tgt := 143) hx hb dX2_readStatement_136 (by decide) (fun c24 => ?_) (fun c24 => ?_)
              · have hm := it_t c24 hm
                refine lv_iconst (v := (0 : Int32)) hx hb dX2_readStatement_143 (by decide) ?_
                exact B_144 _ _ _ _ _ _ _ _ _ hm hP hD hS (lv_sub hl [1, 2] rfl)
              · have hm := it_f c24 hm
                refine lv_iconst (v := (1 : Int32)) hx hb dX2_readStatement_139 (by decide) ?_
                refine lv_goto (tgt := 144) hx hb dX2_readStatement_140 (by decide) ?_
                exact B_144 _ _ _ _ _ _ _ _ _ hm hP hD hS (lv_sub hl [1, 2] rfl)
          · have hm := it_f c18 hm
            refine lv_aload_n hx hb dX2_readStatement_87 rfl (lv_at hl 0 rfl) ?_
            refine lv_iconst (v := (0 : Int32)) hx hb dX2_readStatement_88 (by decide) ?_
            refine lv_bipush (v := (9 : Int32)) hx hb dX2_readStatement_89 (by decide) ?_
            obtain ⟨o25, ho26, hm⟩ := bd_s hm
            refine xr_i (wr := [(p1a0, e_X1 p1a1 p1a2 p1a3 p1), (p1a1, eI cA 8 p1_kinds), (p1a2, eI cA 8 p1_as), (p1a3, eI cA 8 p1_pitches)]) (wn := [(a0, e_X2 a1 o25.2), (a1, eI cA 250 t_bytes), (p1a0, e_X1 p1a1 p1a2 p1a3 p1), (p1a1, eI cA 8 p1_kinds), (p1a2, eI cA 8 p1_as), (p1a3, eI cA 8 p1_pitches)]) (va_runV (As := [.int (0 : Int32), .int (9 : Int32)]) (rest := []) ⟨hx, hb, hml, hown, htg⟩ (c_X2_readNumber l D cA _ fu a0 a1 t t_bytes (0 : Int32) (9 : Int32) o25 ho26) (cwV 2 htg (gV q_3_53 q_3_55 q_p3_5 q_1_5 q_3_56) rfl rfl rfl hd_X2_readNumber ⟨Nat.le_of_ble_eq_true rfl, Nat.le_of_ble_eq_true rfl⟩) (xpV hN hK hP hD [0, 1] rfl (by decide) rfl rfl) rfl rfl hl.1 rfl (lv_room (Nat.le_of_ble_eq_true rfl)) dX2_readStatement_91 ⟨Nat.zero_le _, Nat.zero_le _⟩) hP hD hS hA [0, 1] [2, 3, 4, 5] [4, 5, 0, 1, 2, 3] rfl rfl (by decide) (by decide) rfl (by decide) (fun H locs hP hD hS => ?_)
            refine lv_istore_n (lv' := [(2, .int o25.1), (0, .ref a0), (1, .ref p1a0)]) hx hb dX2_readStatement_94 rfl hl (by decide) rfl (fun ls hl => ?_)
            refine lv_aload_n hx hb dX2_readStatement_95 rfl (lv_at hl 2 rfl) ?_
            refine lv_iload_n hx hb dX2_readStatement_96 rfl (lv_at hl 0 rfl) ?_
            refine va_putN (D := D) (ci := 1) (v := .int o25.1) (ty := .int) (C := RX1) (T := TX1) (N := 12) hx hb htg inX1 tyX1 tyX1_ok nmX1 hown hK hP hD hS 2 rfl rfl 1 (by decide) (va_Nw.use rfl (hN _ q_1_37)) (fun _ h9 => h9) rfl (by decide +kernel) rfl rfl (Nat.le_of_ble_eq_true rfl) dX2_readStatement_97 (fun H locs (hP : va_P D CL [(a0, e_X2 a1 o25.2), (a1, eI cA 250 t_bytes), (p1a0, e_X1 p1a1 p1a2 p1a3 (upd p1 1 o25.1)), (p1a1, eI cA 8 p1_kinds), (p1a2, eI cA 8 p1_as), (p1a3, eI cA 8 p1_pitches)] H) (hD : va_D A [(a0, e_X2 a1 o25.2), (a1, eI cA 250 t_bytes), (p1a0, e_X1 p1a1 p1a2 p1a3 (upd p1 1 o25.1)), (p1a1, eI cA 8 p1_kinds), (p1a2, eI cA 8 p1_as), (p1a3, eI cA 8 p1_pitches)]) hS => ?_)
            refine lv_iload_n hx hb dX2_readStatement_100 rfl (lv_at hl 0 rfl) ?_
            refine lv_iconst (v := (-1 : Int32)) hx hb dX2_readStatement_101 (by decide) ?_
            refine lv_icmp_eq (tgt := 109) hx hb dX2_readStatement_102 (by decide) (fun c27 => ?_) (fun c27 => ?_)
            · have hm := it_t c27 hm
              refine lv_iconst (v := (0 : Int32)) hx hb dX2_readStatement_109 (by decide) ?_
              exact B_110 _ _ _ _ _ _ _ _ _ hm hP hD hS (lv_sub hl [1, 2] rfl)
            · have hm := it_f c27 hm
              refine lv_iconst (v := (1 : Int32)) hx hb dX2_readStatement_105 (by decide) ?_
              refine lv_goto (tgt := 110) hx hb dX2_readStatement_106 (by decide) ?_
              exact B_110 _ _ _ _ _ _ _ _ _ hm hP hD hS (lv_sub hl [1, 2] rfl)
        · have hm := it_f c15 hm
          refine lv_aload_n hx hb dX2_readStatement_54 rfl (lv_at hl 0 rfl) ?_
          refine lv_iconst (v := (0 : Int32)) hx hb dX2_readStatement_55 (by decide) ?_
          refine lv_bipush (v := (40 : Int32)) hx hb dX2_readStatement_56 (by decide) ?_
          obtain ⟨o28, ho29, hm⟩ := bd_s hm
          refine xr_i (wr := [(p1a0, e_X1 p1a1 p1a2 p1a3 p1), (p1a1, eI cA 8 p1_kinds), (p1a2, eI cA 8 p1_as), (p1a3, eI cA 8 p1_pitches)]) (wn := [(a0, e_X2 a1 o28.2), (a1, eI cA 250 t_bytes), (p1a0, e_X1 p1a1 p1a2 p1a3 p1), (p1a1, eI cA 8 p1_kinds), (p1a2, eI cA 8 p1_as), (p1a3, eI cA 8 p1_pitches)]) (va_runV (As := [.int (0 : Int32), .int (40 : Int32)]) (rest := []) ⟨hx, hb, hml, hown, htg⟩ (c_X2_readNumber l D cA _ fu a0 a1 t t_bytes (0 : Int32) (40 : Int32) o28 ho29) (cwV 2 htg (gV q_3_53 q_3_55 q_p3_5 q_1_5 q_3_56) rfl rfl rfl hd_X2_readNumber ⟨Nat.le_of_ble_eq_true rfl, Nat.le_of_ble_eq_true rfl⟩) (xpV hN hK hP hD [0, 1] rfl (by decide) rfl rfl) rfl rfl hl.1 rfl (lv_room (Nat.le_of_ble_eq_true rfl)) dX2_readStatement_58 ⟨Nat.zero_le _, Nat.zero_le _⟩) hP hD hS hA [0, 1] [2, 3, 4, 5] [4, 5, 0, 1, 2, 3] rfl rfl (by decide) (by decide) rfl (by decide) (fun H locs hP hD hS => ?_)
          refine lv_istore_n (lv' := [(2, .int o28.1), (0, .ref a0), (1, .ref p1a0)]) hx hb dX2_readStatement_61 rfl hl (by decide) rfl (fun ls hl => ?_)
          refine lv_aload_n hx hb dX2_readStatement_62 rfl (lv_at hl 2 rfl) ?_
          refine lv_iload_n hx hb dX2_readStatement_63 rfl (lv_at hl 0 rfl) ?_
          refine va_putN (D := D) (ci := 1) (v := .int o28.1) (ty := .int) (C := RX1) (T := TX1) (N := 12) hx hb htg inX1 tyX1 tyX1_ok nmX1 hown hK hP hD hS 2 rfl rfl 0 (by decide) (va_Nw.use rfl (hN _ q_1_33)) (fun _ h9 => h9) rfl (by decide +kernel) rfl rfl (Nat.le_of_ble_eq_true rfl) dX2_readStatement_64 (fun H locs (hP : va_P D CL [(a0, e_X2 a1 o28.2), (a1, eI cA 250 t_bytes), (p1a0, e_X1 p1a1 p1a2 p1a3 (upd p1 0 o28.1)), (p1a1, eI cA 8 p1_kinds), (p1a2, eI cA 8 p1_as), (p1a3, eI cA 8 p1_pitches)] H) (hD : va_D A [(a0, e_X2 a1 o28.2), (a1, eI cA 250 t_bytes), (p1a0, e_X1 p1a1 p1a2 p1a3 (upd p1 0 o28.1)), (p1a1, eI cA 8 p1_kinds), (p1a2, eI cA 8 p1_as), (p1a3, eI cA 8 p1_pitches)]) hS => ?_)
          refine lv_iload_n hx hb dX2_readStatement_67 rfl (lv_at hl 0 rfl) ?_
          refine lv_iconst (v := (-1 : Int32)) hx hb dX2_readStatement_68 (by decide) ?_
          refine lv_icmp_eq (tgt := 76) hx hb dX2_readStatement_69 (by decide) (fun c30 => ?_) (fun c30 => ?_)
          · have hm := it_t c30 hm
            refine lv_iconst (v := (0 : Int32)) hx hb dX2_readStatement_76 (by decide) ?_
            exact B_77 _ _ _ _ _ _ _ _ _ hm hP hD hS (lv_sub hl [1, 2] rfl)
          · have hm := it_f c30 hm
            refine lv_iconst (v := (1 : Int32)) hx hb dX2_readStatement_72 (by decide) ?_
            refine lv_goto (tgt := 77) hx hb dX2_readStatement_73 (by decide) ?_
            exact B_77 _ _ _ _ _ _ _ _ _ hm hP hD hS (lv_sub hl [1, 2] rfl)
      · have hm := it_f c12 hm
        refine lv_aload_n hx hb dX2_readStatement_39 rfl (lv_at hl 0 rfl) ?_
        refine lv_aload_n hx hb dX2_readStatement_40 rfl (lv_at hl 1 rfl) ?_
        obtain ⟨o31, ho32, hm⟩ := bd_s hm
        refine xr_i (wr := [(p1a1, eI cA 8 p1_kinds), (p1a2, eI cA 8 p1_as), (p1a3, eI cA 8 p1_pitches)]) (wn := [(a0, e_X2 a1 o31.2.1), (a1, eI cA 250 t_bytes), (p1a0, e_X1 p1a1 p1a2 p1a3 o31.2.2), (p1a1, eI cA 8 p1_kinds), (p1a2, eI cA 8 p1_as), (p1a3, eI cA 8 p1_pitches)]) (va_runV (As := [.ref p1a0]) (rest := []) ⟨hx, hb, hml, hown, htg⟩ (c_X2_readWeight l D cA _ fu a0 a1 p1a0 p1a1 p1a2 p1a3 t t_bytes p1 o31 ho32) (cwV 1 htg (gV q_3_65 q_3_67 q_p3_7 q_1_5 q_3_68) rfl rfl rfl hd_X2_readWeight ⟨Nat.le_of_ble_eq_true rfl, Nat.le_of_ble_eq_true rfl⟩) (xpV hN hK hP hD [0, 1, 2] rfl (by decide) rfl rfl) rfl rfl hl.1 rfl (lv_room (Nat.le_of_ble_eq_true rfl)) dX2_readStatement_41 ⟨Nat.zero_le _, Nat.zero_le _⟩) hP hD hS hA [0, 1, 2] [3, 4, 5] [3, 4, 5, 0, 1, 2] rfl rfl (by decide) (by decide) rfl (by decide) (fun H locs hP hD hS => ?_)
        obtain ⟨hz33, hm⟩ := gd_s hm
        rw [hQ]
        exact W.zret (v := o31.1) hx hb hr (bz_nr hz33) (fun t9 ht hW => ⟨⟨o31.1, (o31.2.1, o31.2.2, p1_kinds, p1_as, p1_pitches), rfl, (Option.some.inj hm), by rw [ht]; exact hP, va_K.moved hW.alike hK, hD⟩, hS.F ht⟩) hS.2.2 dX2_readStatement_44
    · have hm := it_f c9 hm
      refine lv_aload_n hx hb dX2_readStatement_24 rfl (lv_at hl 0 rfl) ?_
      refine lv_aload_n hx hb dX2_readStatement_25 rfl (lv_at hl 1 rfl) ?_
      obtain ⟨o34, ho35, hm⟩ := bd_s hm
      refine xr_i (wr := [(p1a1, eI cA 8 p1_kinds), (p1a2, eI cA 8 p1_as)]) (wn := [(a0, e_X2 a1 o34.2.1), (a1, eI cA 250 t_bytes), (p1a0, e_X1 p1a1 p1a2 p1a3 p1), (p1a1, eI cA 8 p1_kinds), (p1a2, eI cA 8 p1_as), (p1a3, eI cA 8 o34.2.2)]) (va_runV (As := [.ref p1a0]) (rest := []) ⟨hx, hb, hml, hown, htg⟩ (c_X2_readPitch l D cA _ fu a0 a1 p1a0 p1a1 p1a2 p1a3 t t_bytes p1 p1_pitches o34 ho35) (cwV 1 htg (gV q_3_59 q_3_61 q_p3_6 q_1_5 q_3_62) rfl rfl rfl hd_X2_readPitch ⟨Nat.le_of_ble_eq_true rfl, Nat.le_of_ble_eq_true rfl⟩) (xpV hN hK hP hD [0, 1, 2, 5] rfl (by decide) rfl rfl) rfl rfl hl.1 rfl (lv_room (Nat.le_of_ble_eq_true rfl)) dX2_readStatement_26 ⟨Nat.zero_le _, Nat.zero_le _⟩) hP hD hS hA [0, 1, 2, 5] [3, 4] [2, 3, 4, 0, 1, 5] rfl rfl (by decide) (by decide) rfl (by decide) (fun H locs hP hD hS => ?_)
      obtain ⟨hz36, hm⟩ := gd_s hm
      rw [hQ]
      exact W.zret (v := o34.1) hx hb hr (bz_nr hz36) (fun t9 ht hW => ⟨⟨o34.1, (o34.2.1, p1, p1_kinds, p1_as, o34.2.2), rfl, (Option.some.inj hm), by rw [ht]; exact hP, va_K.moved hW.alike hK, hD⟩, hS.F ht⟩) hS.2.2 dX2_readStatement_29
  · have hm := it_f c6 hm
    refine lv_aload_n hx hb dX2_readStatement_9 rfl (lv_at hl 0 rfl) ?_
    refine lv_aload_n hx hb dX2_readStatement_10 rfl (lv_at hl 1 rfl) ?_
    obtain ⟨o37, ho38, hm⟩ := bd_s hm
    refine xr_i (wr := []) (wn := [(a0, e_X2 a1 o37.2.1), (a1, eI cA 250 t_bytes), (p1a0, e_X1 p1a1 p1a2 p1a3 o37.2.2.1), (p1a1, eI cA 8 o37.2.2.2.1), (p1a2, eI cA 8 o37.2.2.2.2.1), (p1a3, eI cA 8 o37.2.2.2.2.2)]) (va_runV (As := [.ref p1a0]) (rest := []) ⟨hx, hb, hml, hown, htg⟩ (c_X2_readVoice l D cA _ fu a0 a1 p1a0 p1a1 p1a2 p1a3 t t_bytes p1 p1_kinds p1_as p1_pitches o37 ho38) (cwV 1 htg (gV q_3_48 q_3_50 q_p3_4 q_1_5 q_3_51) rfl rfl rfl hd_X2_readVoice ⟨Nat.le_of_ble_eq_true rfl, Nat.le_of_ble_eq_true rfl⟩) (xpV hN hK hP hD [0, 1, 2, 3, 4, 5] rfl (by decide) rfl rfl) rfl rfl hl.1 rfl (lv_room (Nat.le_of_ble_eq_true rfl)) dX2_readStatement_11 ⟨Nat.zero_le _, Nat.zero_le _⟩) hP hD hS hA [0, 1, 2, 3, 4, 5] [] [0, 1, 2, 3, 4, 5] rfl rfl (by decide) (by decide) rfl (by decide) (fun H locs hP hD hS => ?_)
    obtain ⟨hz39, hm⟩ := gd_s hm
    rw [hQ]
    exact W.zret (v := o37.1) hx hb hr (bz_nr hz39) (fun t9 ht hW => ⟨⟨o37.1, (o37.2.1, o37.2.2.1, o37.2.2.2.1, o37.2.2.2.2.1, o37.2.2.2.2.2), rfl, (Option.some.inj hm), by rw [ht]; exact hP, va_K.moved hW.alike hK, hD⟩, hS.F ht⟩) hS.2.2 dX2_readStatement_14
def b_X2_readInto_7 (fu : Nat) (t_bytes : Nat → Int32) (k_7 : (Int32 × (Nat → Int32) × (Nat → Int32) × (Nat → Int32) × (Nat → Int32) × (Nat → Int32)) → Option (Int32 × ((Nat → Int32) × (Nat → Int32) × (Nat → Int32) × (Nat → Int32) × (Nat → Int32)))) (x : Int32 × (Nat → Int32) × (Nat → Int32) × (Nat → Int32) × (Nat → Int32) × (Nat → Int32)) : Option (Int32 × ((Nat → Int32) × (Nat → Int32) × (Nat → Int32) × (Nat → Int32) × (Nat → Int32))) :=
  (if (250 : Int32) < x.1 then
        some ((-1 : Int32), (x.2.1, x.2.2.1, x.2.2.2.1, x.2.2.2.2.1, x.2.2.2.2.2))
      else
        (m_X2_step fu x.2.1 t_bytes).bind fun o2 =>
        (m_X2_readStatement fu o2 t_bytes x.2.2.1 x.2.2.2.1 x.2.2.2.2.1 x.2.2.2.2.2).bind fun o4 =>
        (if o4.1 = 0 then
          some ((-1 : Int32), (o4.2.1, o4.2.2.1, o4.2.2.2.1, o4.2.2.2.2.1, o4.2.2.2.2.2))
        else
          (m_X2_step fu o4.2.1 t_bytes).bind fun o7 =>
          (if o7 4 = 0 then
            some (x.1, (o7, o4.2.2.1, o4.2.2.2.1, o4.2.2.2.2.1, o4.2.2.2.2.2))
          else
            (if o7 4 = (3 : Int32) then
              k_7 ((x.1 + (1 : Int32)), o7, o4.2.2.1, o4.2.2.2.1, o4.2.2.2.2.1, o4.2.2.2.2.2)
            else
              some ((-1 : Int32), (o7, o4.2.2.1, o4.2.2.2.1, o4.2.2.2.2.1, o4.2.2.2.2.2))))))
def m_X2_readInto (fu : Nat) (t : Nat → Int32) (t_bytes : Nat → Int32) (p1 : Nat → Int32) (p1_kinds : Nat → Int32) (p1_as : Nat → Int32) (p1_pitches : Nat → Int32) : Option (Int32 × ((Nat → Int32) × (Nat → Int32) × (Nat → Int32) × (Nat → Int32) × (Nat → Int32))) :=
  lfix (b_X2_readInto_7 fu t_bytes) fu ((1 : Int32), (upd t 3 (0 : Int32)), p1, p1_kinds, p1_as, p1_pitches)
abbrev rm_X2_readInto : Room := ({ frames := 6, cells := 0, slots := 0, locals := 129 } : Room)
abbrev w0_X2_readInto (cA : Nat → ClassId) (a0 : Nat) (a1 : Nat) (p1a0 : Nat) (p1a1 : Nat) (p1a2 : Nat) (p1a3 : Nat) (t : Nat → Int32) (t_bytes : Nat → Int32) (p1 : Nat → Int32) (p1_kinds : Nat → Int32) (p1_as : Nat → Int32) (p1_pitches : Nat → Int32) : va_W := [(a0, e_X2 a1 t), (a1, eI cA 250 t_bytes), (p1a0, e_X1 p1a1 p1a2 p1a3 p1), (p1a1, eI cA 8 p1_kinds), (p1a2, eI cA 8 p1_as), (p1a3, eI cA 8 p1_pitches)]
abbrev w1_X2_readInto (cA : Nat → ClassId) (a0 : Nat) (a1 : Nat) (p1a0 : Nat) (p1a1 : Nat) (p1a2 : Nat) (p1a3 : Nat) (t_bytes : Nat → Int32) (u : (Nat → Int32) × (Nat → Int32) × (Nat → Int32) × (Nat → Int32) × (Nat → Int32)) : va_W := [(a0, e_X2 a1 u.1), (a1, eI cA 250 t_bytes), (p1a0, e_X1 p1a1 p1a2 p1a3 u.2.1), (p1a1, eI cA 8 u.2.2.1), (p1a2, eI cA 8 u.2.2.2.1), (p1a3, eI cA 8 u.2.2.2.2)]
theorem hd_X2_readInto : yX2_readInto.cls = RX2 ∧ yX2_readInto.cls ≠ "java/lang/invoke/MethodHandle" ∧ yX2_readInto.cls ≠ "java/lang/invoke/VarHandle" ∧ (parseMethodDescriptor yX2_readInto.desc).map (fun d => d.parameters.length) = some 1 := by decide +kernel
set_option maxHeartbeats 40000000 in
set_option maxRecDepth 100000 in
theorem c_X2_readInto (l : Launch) (D : va_G) (cA : Nat → ClassId) (K V : Nat → Nat) (fv : Value) (sz : Nat) (fu : Nat) (a0 : Nat) (a1 : Nat) (p1a0 : Nat) (p1a1 : Nat) (p1a2 : Nat) (p1a3 : Nat) (t : Nat → Int32) (t_bytes : Nat → Int32) (p1 : Nat → Int32) (p1_kinds : Nat → Int32) (p1_as : Nat → Int32) (p1_pitches : Nat → Int32) (out : Int32 × ((Nat → Int32) × (Nat → Int32) × (Nat → Int32) × (Nat → Int32) × (Nat → Int32))) (hm : m_X2_readInto fu t t_bytes p1 p1_kinds p1_as p1_pitches = some out) : MI1 l yX2_readInto (wU yX2_readInto cX2_readInto 3 ((Option.some Jvm.ClassFile.FieldType.int))) rm_X2_readInto D cA K V fv sz [.ref a0, .ref p1a0] (w0_X2_readInto cA a0 a1 p1a0 p1a1 p1a2 p1a3 t t_bytes p1 p1_kinds p1_as p1_pitches) out (w1_X2_readInto cA a0 a1 p1a0 p1a1 p1a2 p1a3 t_bytes) := by
  refine Met.ofW (cc := cX2_readInto) (maxL := 3) (ret := (Option.some Jvm.ClassFile.FieldType.int)) (by decide) rfl ?_
  intro p e s m args below meth c s₁ B hml hv
  obtain ⟨hargs, ⟨hsz, hP, hK, hD0, hN⟩, hSS⟩ := hv
  have hx := B.exec
  have hb := B.bytes
  have hr := B.returns
  have htg : ∀ w ∈ gw, w.before args s = true := fun w h => atoms_spec (ws := wU yX2_readInto cX2_readInto 3 ((Option.some Jvm.ClassFile.FieldType.int))) B.pre w (List.mem_cons_of_mem _ h)
  have hown : s.vm.findClass RX2 = some m.cls := findClass_of_methodNamed B.named
  have hlocks := B.notSynchronized
  subst hsz
  have hD := hD0.self (sz := s.heap.size)
  have hA : ∀ q : Nat, s.heap.size ≤ q → va_A (w0_X2_readInto cA a0 a1 p1a0 p1a1 p1a2 p1a3 t t_bytes p1 p1_kinds p1_as p1_pitches) s.heap.size q := fun q h => Or.inr h
  have hS : va_S (va_A (w0_X2_readInto cA a0 a1 p1a0 p1a1 p1a2 p1a3 t t_bytes p1 p1_kinds p1_as p1_pitches) s.heap.size) s.heap s.heap [] := va_S.rf
  generalize va_A (w0_X2_readInto cA a0 a1 p1a0 p1a1 p1a2 p1a3 t t_bytes p1 p1_kinds p1_as p1_pitches) s.heap.size = A at hA hD hS hSS ⊢
  obtain ⟨Q, hQ⟩ : ∃ Q : State → Prop, Q = MQ below (va_Qi (fun (r : Int32) (u : (Nat → Int32) × (Nat → Int32) × (Nat → Int32) × (Nat → Int32) × (Nat → Int32)) => (r, u) = out) (pst0 D cA A (w1_X2_readInto cA a0 a1 p1a0 p1a1 p1a2 p1a3 t_bytes)) A) args s 0 0 A := ⟨_, rfl⟩
  refine (?_ : W p l e rm_X2_readInto s m args below meth c s.heap [] 0 0 (MQ below (va_Qi (fun (r : Int32) (u : (Nat → Int32) × (Nat → Int32) × (Nat → Int32) × (Nat → Int32) × (Nat → Int32)) => (r, u) = out) (pst0 D cA A (w1_X2_readInto cA a0 a1 p1a0 p1a1 p1a2 p1a3 t_bytes)) A) args s 0 0 A) (entryFrame m args 3))
  rw [← hQ]
  have hP : va_P D CL [(a0, e_X2 a1 t), (a1, eI cA 250 t_bytes), (p1a0, e_X1 p1a1 p1a2 p1a3 p1), (p1a1, eI cA 8 p1_kinds), (p1a2, eI cA 8 p1_as), (p1a3, eI cA 8 p1_pitches)] s.heap := hP
  have hD : va_D A [(a0, e_X2 a1 t), (a1, eI cA 250 t_bytes), (p1a0, e_X1 p1a1 p1a2 p1a3 p1), (p1a1, eI cA 8 p1_kinds), (p1a2, eI cA 8 p1_as), (p1a3, eI cA 8 p1_pitches)] := hD
  have B_7 : ∀ (n : Nat) (x : Int32 × (Nat → Int32) × (Nat → Int32) × (Nat → Int32) × (Nat → Int32) × (Nat → Int32)) (H : Heap) (locs : List Loc) (ls : Array Slot), lfix (b_X2_readInto_7 fu t_bytes) n x = some out → va_P D CL [(a0, e_X2 a1 x.2.1), (a1, eI cA 250 t_bytes), (p1a0, e_X1 p1a1 p1a2 p1a3 x.2.2.1), (p1a1, eI cA 8 x.2.2.2.1), (p1a2, eI cA 8 x.2.2.2.2.1), (p1a3, eI cA 8 x.2.2.2.2.2)] H → va_D A [(a0, e_X2 a1 x.2.1), (a1, eI cA 250 t_bytes), (p1a0, e_X1 p1a1 p1a2 p1a3 x.2.2.1), (p1a1, eI cA 8 x.2.2.2.1), (p1a2, eI cA 8 x.2.2.2.2.1), (p1a3, eI cA 8 x.2.2.2.2.2)] → va_S A s.heap H locs → lv_has ls 3 [(0, .ref a0), (1, .ref p1a0), (2, .int x.1)] → W p l e rm_X2_readInto s m args below meth c H locs 0 0 Q (F0 m 7 ls []) := by
    intro  n
    induction n with
    | zero => intro x H locs ls hm; cases (show none = some out from hm)
    | succ n HK_7 =>
      intro x H locs ls hm hP hD hS hl
      replace hm : b_X2_readInto_7 fu t_bytes (lfix (b_X2_readInto_7 fu t_bytes) n) x = some out := hm
      unfold b_X2_readInto_7 at hm
      refine lv_iload_n hx hb dX2_readInto_7 rfl (lv_at hl 2 rfl) ?_
      refine lv_sipush (v := (250 : Int32)) hx hb dX2_readInto_8 (by decide) ?_
      refine lv_icmp_gt (tgt := 57) hx hb dX2_readInto_11 (by decide) (fun c1 => ?_) (fun c1 => ?_)
      · have hm := it_t c1 hm
        refine lv_iconst (v := (-1 : Int32)) hx hb dX2_readInto_57 (by decide) ?_
        rw [hQ]
        exact W.iret (v := (-1 : Int32)) hx hb hr (fun t9 ht hW => ⟨⟨(-1 : Int32), (x.2.1, x.2.2.1, x.2.2.2.1, x.2.2.2.2.1, x.2.2.2.2.2), rfl, (Option.some.inj hm), by rw [ht]; exact hP, va_K.moved hW.alike hK, hD⟩, hS.F ht⟩) hS.2.2 dX2_readInto_58
      · have hm := it_f c1 hm
        refine lv_aload_n hx hb dX2_readInto_14 rfl (lv_at hl 0 rfl) ?_
        obtain ⟨o2, ho3, hm⟩ := bd_s hm
        refine xr_v (wr := [(p1a0, e_X1 p1a1 p1a2 p1a3 x.2.2.1), (p1a1, eI cA 8 x.2.2.2.1), (p1a2, eI cA 8 x.2.2.2.2.1), (p1a3, eI cA 8 x.2.2.2.2.2)]) (wn := [(a0, e_X2 a1 o2), (a1, eI cA 250 t_bytes), (p1a0, e_X1 p1a1 p1a2 p1a3 x.2.2.1), (p1a1, eI cA 8 x.2.2.2.1), (p1a2, eI cA 8 x.2.2.2.2.1), (p1a3, eI cA 8 x.2.2.2.2.2)]) (va_runV (As := []) (rest := []) ⟨hx, hb, hml, hown, htg⟩ (c_X2_step l D cA _ fu a0 a1 x.2.1 t_bytes o2 ho3) (cwV 0 htg (gV q_2_220 q_2_222 q_p3_0 q_1_5 q_2_223) rfl rfl rfl hd_X2_step ⟨Nat.le_of_ble_eq_true rfl, Nat.le_of_ble_eq_true rfl⟩) (xpV hN hK hP hD [0, 1] rfl (by decide) rfl rfl) rfl rfl hl.1 rfl (lv_room (Nat.le_of_ble_eq_true rfl)) dX2_readInto_15 ⟨Nat.zero_le _, Nat.zero_le _⟩) hP hD hS hA [0, 1] [2, 3, 4, 5] [4, 5, 0, 1, 2, 3] rfl rfl (by decide) (by decide) rfl (by decide) (fun H locs hP hD hS => ?_)
        refine lv_aload_n hx hb dX2_readInto_18 rfl (lv_at hl 0 rfl) ?_
        refine lv_aload_n hx hb dX2_readInto_19 rfl (lv_at hl 1 rfl) ?_
        obtain ⟨o4, ho5, hm⟩ := bd_s hm
        refine xr_i (wr := []) (wn := [(a0, e_X2 a1 o4.2.1), (a1, eI cA 250 t_bytes), (p1a0, e_X1 p1a1 p1a2 p1a3 o4.2.2.1), (p1a1, eI cA 8 o4.2.2.2.1), (p1a2, eI cA 8 o4.2.2.2.2.1), (p1a3, eI cA 8 o4.2.2.2.2.2)]) (va_runV (As := [.ref p1a0]) (rest := []) ⟨hx, hb, hml, hown, htg⟩ (c_X2_readStatement l D cA K V fv _ fu a0 a1 p1a0 p1a1 p1a2 p1a3 o2 t_bytes x.2.2.1 x.2.2.2.1 x.2.2.2.2.1 x.2.2.2.2.2 o4 ho5) (cwV 1 htg (gV q_2_231 q_2_233 q_p3_2 q_1_5 q_2_234) rfl rfl rfl hd_X2_readStatement ⟨Nat.le_of_ble_eq_true rfl, Nat.le_of_ble_eq_true rfl⟩) (xpV1 hSS hS hA hN hK hP hD [0, 1, 2, 3, 4, 5] rfl (by decide) rfl rfl) rfl rfl hl.1 rfl (lv_room (Nat.le_of_ble_eq_true rfl)) dX2_readInto_20 ⟨Nat.zero_le _, Nat.zero_le _⟩) hP hD hS hA [0, 1, 2, 3, 4, 5] [] [0, 1, 2, 3, 4, 5] rfl rfl (by decide) (by decide) rfl (by decide) (fun H locs hP hD hS => ?_)
        refine lv_if_ne (tgt := 28) hx hb dX2_readInto_23 (by decide) (fun c6 => ?_) (fun c6 => ?_)
        · have hm := it_f c6 hm
          refine lv_aload_n hx hb dX2_readInto_28 rfl (lv_at hl 0 rfl) ?_
          obtain ⟨o7, ho8, hm⟩ := bd_s hm
          refine xr_v (wr := [(p1a0, e_X1 p1a1 p1a2 p1a3 o4.2.2.1), (p1a1, eI cA 8 o4.2.2.2.1), (p1a2, eI cA 8 o4.2.2.2.2.1), (p1a3, eI cA 8 o4.2.2.2.2.2)]) (wn := [(a0, e_X2 a1 o7), (a1, eI cA 250 t_bytes), (p1a0, e_X1 p1a1 p1a2 p1a3 o4.2.2.1), (p1a1, eI cA 8 o4.2.2.2.1), (p1a2, eI cA 8 o4.2.2.2.2.1), (p1a3, eI cA 8 o4.2.2.2.2.2)]) (va_runV (As := []) (rest := []) ⟨hx, hb, hml, hown, htg⟩ (c_X2_step l D cA _ fu a0 a1 o4.2.1 t_bytes o7 ho8) (cwV 0 htg (gV q_2_220 q_2_222 q_p3_0 q_1_5 q_2_223) rfl rfl rfl hd_X2_step ⟨Nat.le_of_ble_eq_true rfl, Nat.le_of_ble_eq_true rfl⟩) (xpV hN hK hP hD [0, 1] rfl (by decide) rfl rfl) rfl rfl hl.1 rfl (lv_room (Nat.le_of_ble_eq_true rfl)) dX2_readInto_29 ⟨Nat.zero_le _, Nat.zero_le _⟩) hP hD hS hA [0, 1] [2, 3, 4, 5] [4, 5, 0, 1, 2, 3] rfl rfl (by decide) (by decide) rfl (by decide) (fun H locs hP hD hS => ?_)
          refine lv_aload_n hx hb dX2_readInto_32 rfl (lv_at hl 0 rfl) ?_
          refine va_get (D := D) (ci := 2) (v := .int (o7 4)) (C := RX2) (T := TX2) (N := 5) hx hb htg inX2 hown hK hP 0 rfl rfl 4 (by decide) (htg _ q_1_121) (fun _ h9 => h9) rfl dX2_readInto_33 ?_
          refine lv_if_ne (tgt := 41) hx hb dX2_readInto_36 (by decide) (fun c9 => ?_) (fun c9 => ?_)
          · have hm := it_f c9 hm
            refine lv_aload_n hx hb dX2_readInto_41 rfl (lv_at hl 0 rfl) ?_
            refine va_get (D := D) (ci := 2) (v := .int (o7 4)) (C := RX2) (T := TX2) (N := 5) hx hb htg inX2 hown hK hP 0 rfl rfl 4 (by decide) (htg _ q_1_121) (fun _ h9 => h9) rfl dX2_readInto_42 ?_
            refine lv_iconst (v := (3 : Int32)) hx hb dX2_readInto_45 (by decide) ?_
            refine lv_icmp_eq (tgt := 51) hx hb dX2_readInto_46 (by decide) (fun c10 => ?_) (fun c10 => ?_)
            · have hm := it_t c10 hm
              refine lv_iinc (v := (x.1 + (1 : Int32))) (lv' := [(2, .int (x.1 + (1 : Int32))), (0, .ref a0), (1, .ref p1a0)]) hx hb dX2_readInto_51 hl (k := 2) rfl rfl (by decide) rfl (fun ls hl => ?_)
              refine lv_goto (tgt := 7) hx hb dX2_readInto_54 (by decide) ?_
              exact HK_7 _ _ _ _ hm hP hD hS (lv_sub hl [1, 2, 0] rfl)
            · have hm := it_f c10 hm
              refine lv_iconst (v := (-1 : Int32)) hx hb dX2_readInto_49 (by decide) ?_
              rw [hQ]
              exact W.iret (v := (-1 : Int32)) hx hb hr (fun t9 ht hW => ⟨⟨(-1 : Int32), (o7, o4.2.2.1, o4.2.2.2.1, o4.2.2.2.2.1, o4.2.2.2.2.2), rfl, (Option.some.inj hm), by rw [ht]; exact hP, va_K.moved hW.alike hK, hD⟩, hS.F ht⟩) hS.2.2 dX2_readInto_50
          · have hm := it_t c9 hm
            refine lv_iload_n hx hb dX2_readInto_39 rfl (lv_at hl 2 rfl) ?_
            rw [hQ]
            exact W.iret (v := x.1) hx hb hr (fun t9 ht hW => ⟨⟨x.1, (o7, o4.2.2.1, o4.2.2.2.1, o4.2.2.2.2.1, o4.2.2.2.2.2), rfl, (Option.some.inj hm), by rw [ht]; exact hP, va_K.moved hW.alike hK, hD⟩, hS.F ht⟩) hS.2.2 dX2_readInto_40
        · have hm := it_t c6 hm
          refine lv_iconst (v := (-1 : Int32)) hx hb dX2_readInto_26 (by decide) ?_
          rw [hQ]
          exact W.iret (v := (-1 : Int32)) hx hb hr (fun t9 ht hW => ⟨⟨(-1 : Int32), (o4.2.1, o4.2.2.1, o4.2.2.2.1, o4.2.2.2.2.1, o4.2.2.2.2.2), rfl, (Option.some.inj hm), by rw [ht]; exact hP, va_K.moved hW.alike hK, hD⟩, hS.F ht⟩) hS.2.2 dX2_readInto_27
  unfold m_X2_readInto at hm
  subst hargs
  have hl := lv_entry ([.ref a0, .ref p1a0]) (n := 3) (Nat.le_of_ble_eq_true rfl)
  rw [lg_entry_eq]
  generalize (lg_sl ([.ref a0, .ref p1a0]) ++ List.replicate (3 - (lg_sl ([.ref a0, .ref p1a0])).length) Slot.unset).toArray = ls at hl ⊢
  have hl : lv_has ls 3 [(0, .ref a0), (1, .ref p1a0)] := hl
  refine lv_aload_n hx hb dX2_readInto_0 rfl (lv_at hl 0 rfl) ?_
  refine lv_iconst (v := (0 : Int32)) hx hb dX2_readInto_1 (by decide) ?_
  refine va_put (D := D) (ci := 2) (v := .int (0 : Int32)) (ty := .int) (C := RX2) (T := TX2) (N := 5) hx hb htg inX2 tyX2 tyX2_ok nmX2 hown hK hP hD hS 0 rfl rfl 3 (by decide) (htg _ q_1_120) (fun _ h9 => h9) rfl (by decide +kernel) rfl rfl (Nat.le_of_ble_eq_true rfl) dX2_readInto_2 (fun H locs (hP : va_P D CL [(a0, e_X2 a1 (upd t 3 (0 : Int32))), (a1, eI cA 250 t_bytes), (p1a0, e_X1 p1a1 p1a2 p1a3 p1), (p1a1, eI cA 8 p1_kinds), (p1a2, eI cA 8 p1_as), (p1a3, eI cA 8 p1_pitches)] H) (hD : va_D A [(a0, e_X2 a1 (upd t 3 (0 : Int32))), (a1, eI cA 250 t_bytes), (p1a0, e_X1 p1a1 p1a2 p1a3 p1), (p1a1, eI cA 8 p1_kinds), (p1a2, eI cA 8 p1_as), (p1a3, eI cA 8 p1_pitches)]) hS => ?_)
  refine lv_iconst (v := (1 : Int32)) hx hb dX2_readInto_5 (by decide) ?_
  refine lv_istore_n (lv' := [(2, .int (1 : Int32)), (0, .ref a0), (1, .ref p1a0)]) hx hb dX2_readInto_6 rfl hl (by decide) rfl (fun ls hl => ?_)
  exact B_7 fu _ _ _ _ hm hP hD hS (lv_sub hl [1, 2, 0] rfl)
def m_X5_well (fu : Nat) (t : Nat → Int32) (t_now : Nat → Int32) (t_now_kinds : Nat → Int32) (t_now_as : Nat → Int32) (t_now_pitches : Nat → Int32) (t_written : Nat → Int32) (t_written_kinds : Nat → Int32) (t_written_as : Nat → Int32) (t_written_pitches : Nat → Int32) (t_tape : Nat → Int32) (t_tape_bytes : Nat → Int32) (t_refusals : Nat → Int32) : Option (Int32 × ((Nat → Int32) × (Nat → Int32) × (Nat → Int32) × (Nat → Int32) × (Nat → Int32) × (Nat → Int32) × (Nat → Int32) × (Nat → Int32) × (Nat → Int32) × (Nat → Int32))) :=
  (m_X1_becomes fu t_written t_written_kinds t_written_as t_written_pitches t_now t_now_kinds t_now_as t_now_pitches).bind fun o1 =>
  (m_X2_readInto fu t_tape t_tape_bytes o1.1 o1.2.1 o1.2.2.1 o1.2.2.2).bind fun o3 =>
  (if o3.1 = (-1 : Int32) then
    (m_X5_refuse fu t t_refusals (-2 : Int32)).bind fun o8 =>
    some (((-20 : Int32) - o3.2.1 2), (t_now, t_now_kinds, t_now_as, t_now_pitches, o3.2.2.1, o3.2.2.2.1, o3.2.2.2.2.1, o3.2.2.2.2.2, (upd o3.2.1 1 (0 : Int32)), o8.2))
  else
    (m_X1_becomes fu t_now t_now_kinds t_now_as t_now_pitches o3.2.2.1 o3.2.2.2.1 o3.2.2.2.2.1 o3.2.2.2.2.2).bind fun o6 =>
    some (o3.1, (o6.1, o6.2.1, o6.2.2.1, o6.2.2.2, o3.2.2.1, o3.2.2.2.1, o3.2.2.2.2.1, o3.2.2.2.2.2, (upd o3.2.1 1 (0 : Int32)), t_refusals)))
abbrev rm_X5_well : Room := ({ frames := 7, cells := 0, slots := 0, locals := 151 } : Room)
abbrev w0_X5_well (cA : Nat → ClassId) (ad : Nat → Nat) (t : Nat → Int32) (t_now : Nat → Int32) (t_now_kinds : Nat → Int32) (t_now_as : Nat → Int32) (t_now_pitches : Nat → Int32) (t_written : Nat → Int32) (t_written_kinds : Nat → Int32) (t_written_as : Nat → Int32) (t_written_pitches : Nat → Int32) (t_tape : Nat → Int32) (t_tape_bytes : Nat → Int32) (t_refusals : Nat → Int32) : va_W := [((ad 0), e_X5 ad t), ((ad 1), e_X1 (ad 2) (ad 3) (ad 4) t_now), ((ad 2), eI cA 8 t_now_kinds), ((ad 3), eI cA 8 t_now_as), ((ad 4), eI cA 8 t_now_pitches), ((ad 9), e_X1 (ad 10) (ad 11) (ad 12) t_written), ((ad 10), eI cA 8 t_written_kinds), ((ad 11), eI cA 8 t_written_as), ((ad 12), eI cA 8 t_written_pitches), ((ad 17), e_X2 (ad 18) t_tape), ((ad 18), eI cA 250 t_tape_bytes), ((ad 19), eI cA 5 t_refusals)]
abbrev w1_X5_well (cA : Nat → ClassId) (ad : Nat → Nat) (t : Nat → Int32) (t_tape_bytes : Nat → Int32) (u : (Nat → Int32) × (Nat → Int32) × (Nat → Int32) × (Nat → Int32) × (Nat → Int32) × (Nat → Int32) × (Nat → Int32) × (Nat → Int32) × (Nat → Int32) × (Nat → Int32)) : va_W := [((ad 0), e_X5 ad t), ((ad 1), e_X1 (ad 2) (ad 3) (ad 4) u.1), ((ad 2), eI cA 8 u.2.1), ((ad 3), eI cA 8 u.2.2.1), ((ad 4), eI cA 8 u.2.2.2.1), ((ad 9), e_X1 (ad 10) (ad 11) (ad 12) u.2.2.2.2.1), ((ad 10), eI cA 8 u.2.2.2.2.2.1), ((ad 11), eI cA 8 u.2.2.2.2.2.2.1), ((ad 12), eI cA 8 u.2.2.2.2.2.2.2.1), ((ad 17), e_X2 (ad 18) u.2.2.2.2.2.2.2.2.1), ((ad 18), eI cA 250 t_tape_bytes), ((ad 19), eI cA 5 u.2.2.2.2.2.2.2.2.2)]
theorem hd_X5_well : yX5_well.cls = RX5 ∧ yX5_well.cls ≠ "java/lang/invoke/MethodHandle" ∧ yX5_well.cls ≠ "java/lang/invoke/VarHandle" ∧ (parseMethodDescriptor yX5_well.desc).map (fun d => d.parameters.length) = some 0 := by decide +kernel
set_option maxHeartbeats 40000000 in
set_option maxRecDepth 100000 in
theorem c_X5_well (l : Launch) (D : va_G) (cA : Nat → ClassId) (K V : Nat → Nat) (fv : Value) (sz : Nat) (fu : Nat) (ad : Nat → Nat) (t : Nat → Int32) (t_now : Nat → Int32) (t_now_kinds : Nat → Int32) (t_now_as : Nat → Int32) (t_now_pitches : Nat → Int32) (t_written : Nat → Int32) (t_written_kinds : Nat → Int32) (t_written_as : Nat → Int32) (t_written_pitches : Nat → Int32) (t_tape : Nat → Int32) (t_tape_bytes : Nat → Int32) (t_refusals : Nat → Int32) (out : Int32 × ((Nat → Int32) × (Nat → Int32) × (Nat → Int32) × (Nat → Int32) × (Nat → Int32) × (Nat → Int32) × (Nat → Int32) × (Nat → Int32) × (Nat → Int32) × (Nat → Int32))) (hm : m_X5_well fu t t_now t_now_kinds t_now_as t_now_pitches t_written t_written_kinds t_written_as t_written_pitches t_tape t_tape_bytes t_refusals = some out) : MI1 l yX5_well (wU yX5_well cX5_well 2 ((Option.some Jvm.ClassFile.FieldType.int))) rm_X5_well D cA K V fv sz [.ref (ad 0)] (w0_X5_well cA ad t t_now t_now_kinds t_now_as t_now_pitches t_written t_written_kinds t_written_as t_written_pitches t_tape t_tape_bytes t_refusals) out (w1_X5_well cA ad t t_tape_bytes) := by
  refine Met.ofW (cc := cX5_well) (maxL := 2) (ret := (Option.some Jvm.ClassFile.FieldType.int)) (by decide) rfl ?_
  intro p e s m args below meth c s₁ B hml hv
  obtain ⟨hargs, ⟨hsz, hP, hK, hD0, hN⟩, hSS⟩ := hv
  have hx := B.exec
  have hb := B.bytes
  have hr := B.returns
  have htg : ∀ w ∈ gw, w.before args s = true := fun w h => atoms_spec (ws := wU yX5_well cX5_well 2 ((Option.some Jvm.ClassFile.FieldType.int))) B.pre w (List.mem_cons_of_mem _ h)
  have hown : s.vm.findClass RX5 = some m.cls := findClass_of_methodNamed B.named
  have hlocks := B.notSynchronized
  subst hsz
  have hD := hD0.self (sz := s.heap.size)
  have hA : ∀ q : Nat, s.heap.size ≤ q → va_A (w0_X5_well cA ad t t_now t_now_kinds t_now_as t_now_pitches t_written t_written_kinds t_written_as t_written_pitches t_tape t_tape_bytes t_refusals) s.heap.size q := fun q h => Or.inr h
  have hS : va_S (va_A (w0_X5_well cA ad t t_now t_now_kinds t_now_as t_now_pitches t_written t_written_kinds t_written_as t_written_pitches t_tape t_tape_bytes t_refusals) s.heap.size) s.heap s.heap [] := va_S.rf
  generalize va_A (w0_X5_well cA ad t t_now t_now_kinds t_now_as t_now_pitches t_written t_written_kinds t_written_as t_written_pitches t_tape t_tape_bytes t_refusals) s.heap.size = A at hA hD hS hSS ⊢
  obtain ⟨Q, hQ⟩ : ∃ Q : State → Prop, Q = MQ below (va_Qi (fun (r : Int32) (u : (Nat → Int32) × (Nat → Int32) × (Nat → Int32) × (Nat → Int32) × (Nat → Int32) × (Nat → Int32) × (Nat → Int32) × (Nat → Int32) × (Nat → Int32) × (Nat → Int32)) => (r, u) = out) (pst0 D cA A (w1_X5_well cA ad t t_tape_bytes)) A) args s 0 0 A := ⟨_, rfl⟩
  refine (?_ : W p l e rm_X5_well s m args below meth c s.heap [] 0 0 (MQ below (va_Qi (fun (r : Int32) (u : (Nat → Int32) × (Nat → Int32) × (Nat → Int32) × (Nat → Int32) × (Nat → Int32) × (Nat → Int32) × (Nat → Int32) × (Nat → Int32) × (Nat → Int32) × (Nat → Int32)) => (r, u) = out) (pst0 D cA A (w1_X5_well cA ad t t_tape_bytes)) A) args s 0 0 A) (entryFrame m args 2))
  rw [← hQ]
  have hP : va_P D CL [((ad 0), e_X5 ad t), ((ad 1), e_X1 (ad 2) (ad 3) (ad 4) t_now), ((ad 2), eI cA 8 t_now_kinds), ((ad 3), eI cA 8 t_now_as), ((ad 4), eI cA 8 t_now_pitches), ((ad 9), e_X1 (ad 10) (ad 11) (ad 12) t_written), ((ad 10), eI cA 8 t_written_kinds), ((ad 11), eI cA 8 t_written_as), ((ad 12), eI cA 8 t_written_pitches), ((ad 17), e_X2 (ad 18) t_tape), ((ad 18), eI cA 250 t_tape_bytes), ((ad 19), eI cA 5 t_refusals)] s.heap := hP
  have hD : va_D A [((ad 0), e_X5 ad t), ((ad 1), e_X1 (ad 2) (ad 3) (ad 4) t_now), ((ad 2), eI cA 8 t_now_kinds), ((ad 3), eI cA 8 t_now_as), ((ad 4), eI cA 8 t_now_pitches), ((ad 9), e_X1 (ad 10) (ad 11) (ad 12) t_written), ((ad 10), eI cA 8 t_written_kinds), ((ad 11), eI cA 8 t_written_as), ((ad 12), eI cA 8 t_written_pitches), ((ad 17), e_X2 (ad 18) t_tape), ((ad 18), eI cA 250 t_tape_bytes), ((ad 19), eI cA 5 t_refusals)] := hD
  unfold m_X5_well at hm
  subst hargs
  have hl := lv_entry ([.ref (ad 0)]) (n := 2) (Nat.le_of_ble_eq_true rfl)
  rw [lg_entry_eq]
  generalize (lg_sl ([.ref (ad 0)]) ++ List.replicate (2 - (lg_sl ([.ref (ad 0)])).length) Slot.unset).toArray = ls at hl ⊢
  have hl : lv_has ls 2 [(0, .ref (ad 0))] := hl
  refine lv_aload_n hx hb dX5_well_0 rfl (lv_at hl 0 rfl) ?_
  refine va_get (D := D) (ci := 5) (v := .ref (ad 9)) (C := RX5) (T := TX5) (N := 17) hx hb htg inX5 hown hK hP 0 rfl rfl 2 (by decide) (htg _ q_1_190) (fun _ h9 => h9) rfl dX5_well_1 ?_
  refine lv_aload_n hx hb dX5_well_4 rfl (lv_at hl 0 rfl) ?_
  refine va_get (D := D) (ci := 5) (v := .ref (ad 1)) (C := RX5) (T := TX5) (N := 17) hx hb htg inX5 hown hK hP 0 rfl rfl 0 (by decide) (htg _ q_1_188) (fun _ h9 => h9) rfl dX5_well_5 ?_
  obtain ⟨o1, ho2, hm⟩ := bd_s hm
  refine xr_v (wr := [((ad 0), e_X5 ad t), ((ad 17), e_X2 (ad 18) t_tape), ((ad 18), eI cA 250 t_tape_bytes), ((ad 19), eI cA 5 t_refusals)]) (wn := [((ad 0), e_X5 ad t), ((ad 1), e_X1 (ad 2) (ad 3) (ad 4) t_now), ((ad 2), eI cA 8 t_now_kinds), ((ad 3), eI cA 8 t_now_as), ((ad 4), eI cA 8 t_now_pitches), ((ad 9), e_X1 (ad 10) (ad 11) (ad 12) o1.1), ((ad 10), eI cA 8 o1.2.1), ((ad 11), eI cA 8 o1.2.2.1), ((ad 12), eI cA 8 o1.2.2.2), ((ad 17), e_X2 (ad 18) t_tape), ((ad 18), eI cA 250 t_tape_bytes), ((ad 19), eI cA 5 t_refusals)]) (va_runVN (As := [.ref (ad 1)]) (rest := []) ⟨hx, hb, hml, hown, htg⟩ (c_X1_becomes l D cA _ fu (ad 9) (ad 10) (ad 11) (ad 12) (ad 1) (ad 2) (ad 3) (ad 4) t_written t_written_kinds t_written_as t_written_pitches t_now t_now_kinds t_now_as t_now_pitches o1 ho2) ⟨va_cnB 1 htg (gU q_2_215) rfl rfl rfl (hN _ q_2_212) (htg _ q_1_2) hd_X1_becomes.2 ⟨Nat.le_of_ble_eq_true rfl, Nat.le_of_ble_eq_true rfl⟩, htg _ q_2_214, htg _ q_p2_14⟩ (xpV hN hK hP hD [5, 6, 7, 8, 1, 2, 3, 4] rfl (by decide) rfl rfl) rfl rfl hl.1 rfl (lv_room (Nat.le_of_ble_eq_true rfl)) dX5_well_8 ⟨Nat.zero_le _, Nat.zero_le _⟩) hP hD hS hA [5, 6, 7, 8, 1, 2, 3, 4] [0, 9, 10, 11] [0, 8, 9, 10, 11, 4, 5, 6, 7, 1, 2, 3] rfl rfl (by decide) (by decide) rfl (by decide) (fun H locs hP hD hS => ?_)
  refine lv_aload_n hx hb dX5_well_11 rfl (lv_at hl 0 rfl) ?_
  refine va_get (D := D) (ci := 5) (v := .ref (ad 17)) (C := RX5) (T := TX5) (N := 17) hx hb htg inX5 hown hK hP 0 rfl rfl 5 (by decide) (htg _ q_1_193) (fun _ h9 => h9) rfl dX5_well_12 ?_
  refine lv_aload_n hx hb dX5_well_15 rfl (lv_at hl 0 rfl) ?_
  refine va_get (D := D) (ci := 5) (v := .ref (ad 9)) (C := RX5) (T := TX5) (N := 17) hx hb htg inX5 hown hK hP 0 rfl rfl 2 (by decide) (htg _ q_1_190) (fun _ h9 => h9) rfl dX5_well_16 ?_
  obtain ⟨o3, ho4, hm⟩ := bd_s hm
  refine xr_i (wr := [((ad 0), e_X5 ad t), ((ad 1), e_X1 (ad 2) (ad 3) (ad 4) t_now), ((ad 2), eI cA 8 t_now_kinds), ((ad 3), eI cA 8 t_now_as), ((ad 4), eI cA 8 t_now_pitches), ((ad 19), eI cA 5 t_refusals)]) (wn := [((ad 0), e_X5 ad t), ((ad 1), e_X1 (ad 2) (ad 3) (ad 4) t_now), ((ad 2), eI cA 8 t_now_kinds), ((ad 3), eI cA 8 t_now_as), ((ad 4), eI cA 8 t_now_pitches), ((ad 9), e_X1 (ad 10) (ad 11) (ad 12) o3.2.2.1), ((ad 10), eI cA 8 o3.2.2.2.1), ((ad 11), eI cA 8 o3.2.2.2.2.1), ((ad 12), eI cA 8 o3.2.2.2.2.2), ((ad 17), e_X2 (ad 18) o3.2.1), ((ad 18), eI cA 250 t_tape_bytes), ((ad 19), eI cA 5 t_refusals)]) (va_runVN (As := [.ref (ad 9)]) (rest := []) ⟨hx, hb, hml, hown, htg⟩ (c_X2_readInto l D cA K V fv _ fu (ad 17) (ad 18) (ad 9) (ad 10) (ad 11) (ad 12) t_tape t_tape_bytes o1.1 o1.2.1 o1.2.2.1 o1.2.2.2 o3 ho4) ⟨va_cnB 1 htg (gU q_2_219) rfl rfl rfl (hN _ q_2_216) (htg _ q_1_5) hd_X2_readInto.2 ⟨Nat.le_of_ble_eq_true rfl, Nat.le_of_ble_eq_true rfl⟩, htg _ q_2_218, htg _ q_p2_15⟩ (xpV1 hSS hS hA hN hK hP hD [9, 10, 5, 6, 7, 8] rfl (by decide) rfl rfl) rfl rfl hl.1 rfl (lv_room (Nat.le_of_ble_eq_true rfl)) dX5_well_19 ⟨Nat.zero_le _, Nat.zero_le _⟩) hP hD hS hA [9, 10, 5, 6, 7, 8] [0, 1, 2, 3, 4, 11] [0, 1, 2, 3, 4, 8, 9, 10, 11, 6, 7, 5] rfl rfl (by decide) (by decide) rfl (by decide) (fun H locs hP hD hS => ?_)
  refine lv_istore_n (lv' := [(1, .int o3.1), (0, .ref (ad 0))]) hx hb dX5_well_22 rfl hl (by decide) rfl (fun ls hl => ?_)
  refine lv_aload_n hx hb dX5_well_23 rfl (lv_at hl 1 rfl) ?_
  refine va_get (D := D) (ci := 5) (v := .ref (ad 17)) (C := RX5) (T := TX5) (N := 17) hx hb htg inX5 hown hK hP 0 rfl rfl 5 (by decide) (htg _ q_1_193) (fun _ h9 => h9) rfl dX5_well_24 ?_
  refine lv_iconst (v := (0 : Int32)) hx hb dX5_well_27 (by decide) ?_
  refine va_putN (D := D) (ci := 2) (v := .int (0 : Int32)) (ty := .int) (C := RX2) (T := TX2) (N := 5) hx hb htg inX2 tyX2 tyX2_ok nmX2 hown hK hP hD hS 9 rfl rfl 1 (by decide) (va_Nw.use rfl (hN _ q_1_117)) (fun _ h9 => h9) rfl (by decide +kernel) rfl rfl (Nat.le_of_ble_eq_true rfl) dX5_well_28 (fun H locs (hP : va_P D CL [((ad 0), e_X5 ad t), ((ad 1), e_X1 (ad 2) (ad 3) (ad 4) t_now), ((ad 2), eI cA 8 t_now_kinds), ((ad 3), eI cA 8 t_now_as), ((ad 4), eI cA 8 t_now_pitches), ((ad 9), e_X1 (ad 10) (ad 11) (ad 12) o3.2.2.1), ((ad 10), eI cA 8 o3.2.2.2.1), ((ad 11), eI cA 8 o3.2.2.2.2.1), ((ad 12), eI cA 8 o3.2.2.2.2.2), ((ad 17), e_X2 (ad 18) (upd o3.2.1 1 (0 : Int32))), ((ad 18), eI cA 250 t_tape_bytes), ((ad 19), eI cA 5 t_refusals)] H) (hD : va_D A [((ad 0), e_X5 ad t), ((ad 1), e_X1 (ad 2) (ad 3) (ad 4) t_now), ((ad 2), eI cA 8 t_now_kinds), ((ad 3), eI cA 8 t_now_as), ((ad 4), eI cA 8 t_now_pitches), ((ad 9), e_X1 (ad 10) (ad 11) (ad 12) o3.2.2.1), ((ad 10), eI cA 8 o3.2.2.2.1), ((ad 11), eI cA 8 o3.2.2.2.2.1), ((ad 12), eI cA 8 o3.2.2.2.2.2), ((ad 17), e_X2 (ad 18) (upd o3.2.1 1 (0 : Int32))), ((ad 18), eI cA 250 t_tape_bytes), ((ad 19), eI cA 5 t_refusals)]) hS => ?_)
  refine lv_iload_n hx hb dX5_well_31 rfl (lv_at hl 0 rfl) ?_
  refine lv_iconst (v := (-1 : Int32)) hx hb dX5_well_32 (by decide) ?_
  refine lv_icmp_ne (tgt := 54) hx hb dX5_well_33 (by decide) (fun c5 => ?_) (fun c5 => ?_)
  · have hm := it_f c5 hm
    refine lv_aload_n hx hb dX5_well_54 rfl (lv_at hl 1 rfl) ?_
    refine va_get (D := D) (ci := 5) (v := .ref (ad 1)) (C := RX5) (T := TX5) (N := 17) hx hb htg inX5 hown hK hP 0 rfl rfl 0 (by decide) (htg _ q_1_188) (fun _ h9 => h9) rfl dX5_well_55 ?_
    refine lv_aload_n hx hb dX5_well_58 rfl (lv_at hl 1 rfl) ?_
    refine va_get (D := D) (ci := 5) (v := .ref (ad 9)) (C := RX5) (T := TX5) (N := 17) hx hb htg inX5 hown hK hP 0 rfl rfl 2 (by decide) (htg _ q_1_190) (fun _ h9 => h9) rfl dX5_well_59 ?_
    obtain ⟨o6, ho7, hm⟩ := bd_s hm
    refine xr_v (wr := [((ad 0), e_X5 ad t), ((ad 17), e_X2 (ad 18) (upd o3.2.1 1 (0 : Int32))), ((ad 18), eI cA 250 t_tape_bytes), ((ad 19), eI cA 5 t_refusals)]) (wn := [((ad 0), e_X5 ad t), ((ad 1), e_X1 (ad 2) (ad 3) (ad 4) o6.1), ((ad 2), eI cA 8 o6.2.1), ((ad 3), eI cA 8 o6.2.2.1), ((ad 4), eI cA 8 o6.2.2.2), ((ad 9), e_X1 (ad 10) (ad 11) (ad 12) o3.2.2.1), ((ad 10), eI cA 8 o3.2.2.2.1), ((ad 11), eI cA 8 o3.2.2.2.2.1), ((ad 12), eI cA 8 o3.2.2.2.2.2), ((ad 17), e_X2 (ad 18) (upd o3.2.1 1 (0 : Int32))), ((ad 18), eI cA 250 t_tape_bytes), ((ad 19), eI cA 5 t_refusals)]) (va_runVN (As := [.ref (ad 9)]) (rest := []) ⟨hx, hb, hml, hown, htg⟩ (c_X1_becomes l D cA _ fu (ad 1) (ad 2) (ad 3) (ad 4) (ad 9) (ad 10) (ad 11) (ad 12) t_now t_now_kinds t_now_as t_now_pitches o3.2.2.1 o3.2.2.2.1 o3.2.2.2.2.1 o3.2.2.2.2.2 o6 ho7) ⟨va_cnB 1 htg (gU q_2_215) rfl rfl rfl (hN _ q_2_212) (htg _ q_1_2) hd_X1_becomes.2 ⟨Nat.le_of_ble_eq_true rfl, Nat.le_of_ble_eq_true rfl⟩, htg _ q_2_214, htg _ q_p2_14⟩ (xpV hN hK hP hD [1, 2, 3, 4, 5, 6, 7, 8] rfl (by decide) rfl rfl) rfl rfl hl.1 rfl (lv_room (Nat.le_of_ble_eq_true rfl)) dX5_well_62 ⟨Nat.zero_le _, Nat.zero_le _⟩) hP hD hS hA [1, 2, 3, 4, 5, 6, 7, 8] [0, 9, 10, 11] [0, 4, 5, 6, 7, 8, 9, 10, 11, 1, 2, 3] rfl rfl (by decide) (by decide) rfl (by decide) (fun H locs hP hD hS => ?_)
    refine lv_iload_n hx hb dX5_well_65 rfl (lv_at hl 0 rfl) ?_
    rw [hQ]
    exact W.iret (v := o3.1) hx hb hr (fun t9 ht hW => ⟨⟨o3.1, (o6.1, o6.2.1, o6.2.2.1, o6.2.2.2, o3.2.2.1, o3.2.2.2.1, o3.2.2.2.2.1, o3.2.2.2.2.2, (upd o3.2.1 1 (0 : Int32)), t_refusals), rfl, (Option.some.inj hm), by rw [ht]; exact hP, va_K.moved hW.alike hK, hD⟩, hS.F ht⟩) hS.2.2 dX5_well_66
  · have hm := it_t c5 hm
    refine lv_aload_n hx hb dX5_well_36 rfl (lv_at hl 1 rfl) ?_
    refine lv_bipush (v := (-2 : Int32)) hx hb dX5_well_37 (by decide) ?_
    obtain ⟨o8, ho9, hm⟩ := bd_s hm
    refine xr_i (wr := [((ad 1), e_X1 (ad 2) (ad 3) (ad 4) t_now), ((ad 2), eI cA 8 t_now_kinds), ((ad 3), eI cA 8 t_now_as), ((ad 4), eI cA 8 t_now_pitches), ((ad 9), e_X1 (ad 10) (ad 11) (ad 12) o3.2.2.1), ((ad 10), eI cA 8 o3.2.2.2.1), ((ad 11), eI cA 8 o3.2.2.2.2.1), ((ad 12), eI cA 8 o3.2.2.2.2.2), ((ad 17), e_X2 (ad 18) (upd o3.2.1 1 (0 : Int32))), ((ad 18), eI cA 250 t_tape_bytes)]) (wn := [((ad 0), e_X5 ad t), ((ad 1), e_X1 (ad 2) (ad 3) (ad 4) t_now), ((ad 2), eI cA 8 t_now_kinds), ((ad 3), eI cA 8 t_now_as), ((ad 4), eI cA 8 t_now_pitches), ((ad 9), e_X1 (ad 10) (ad 11) (ad 12) o3.2.2.1), ((ad 10), eI cA 8 o3.2.2.2.1), ((ad 11), eI cA 8 o3.2.2.2.2.1), ((ad 12), eI cA 8 o3.2.2.2.2.2), ((ad 17), e_X2 (ad 18) (upd o3.2.1 1 (0 : Int32))), ((ad 18), eI cA 250 t_tape_bytes), ((ad 19), eI cA 5 o8.2)]) (va_runV (As := [.int (-2 : Int32)]) (rest := []) ⟨hx, hb, hml, hown, htg⟩ (c_X5_refuse l D cA _ fu ad t t_refusals (-2 : Int32) o8 ho9) (cwV 1 htg (gV q_2_10 q_2_12 q_p1_0 q_1_1 q_2_13) rfl rfl rfl hd_X5_refuse ⟨Nat.le_of_ble_eq_true rfl, Nat.le_of_ble_eq_true rfl⟩) (xpV hN hK hP hD [0, 11] rfl (by decide) rfl rfl) rfl rfl hl.1 rfl (lv_room (Nat.le_of_ble_eq_true rfl)) dX5_well_39 ⟨Nat.zero_le _, Nat.zero_le _⟩) hP hD hS hA [0, 11] [1, 2, 3, 4, 5, 6, 7, 8, 9, 10] [10, 0, 1, 2, 3, 4, 5, 6, 7, 8, 9, 11] rfl rfl (by decide) (by decide) rfl (by decide) (fun H locs hP hD hS => ?_)
    refine lv_pop hx hb dX5_well_42 rfl ?_
    refine lv_bipush (v := (-20 : Int32)) hx hb dX5_well_43 (by decide) ?_
    refine lv_aload_n hx hb dX5_well_45 rfl (lv_at hl 1 rfl) ?_
    refine va_get (D := D) (ci := 5) (v := .ref (ad 17)) (C := RX5) (T := TX5) (N := 17) hx hb htg inX5 hown hK hP 0 rfl rfl 5 (by decide) (htg _ q_1_193) (fun _ h9 => h9) rfl dX5_well_46 ?_
    refine va_getN (D := D) (ci := 2) (v := .int (o3.2.1 2)) (C := RX2) (T := TX2) (N := 5) hx hb htg inX2 hown hK hP 9 rfl rfl 2 (by decide) (va_Nw.use rfl (hN _ q_1_119)) (fun _ h9 => h9) rfl dX5_well_49 ?_
    refine lv_isub hx hb dX5_well_52 ?_
    rw [hQ]
    exact W.iret (v := ((-20 : Int32) - o3.2.1 2)) hx hb hr (fun t9 ht hW => ⟨⟨((-20 : Int32) - o3.2.1 2), (t_now, t_now_kinds, t_now_as, t_now_pitches, o3.2.2.1, o3.2.2.2.1, o3.2.2.2.2.1, o3.2.2.2.2.2, (upd o3.2.1 1 (0 : Int32)), o8.2), rfl, (Option.some.inj hm), by rw [ht]; exact hP, va_K.moved hW.alike hK, hD⟩, hS.F ht⟩) hS.2.2 dX5_well_53
def b_X6_isWord_24 (fu : Nat) (sx1 : Nat) (t : Nat → Int32) (t_L : Nat → Int64) (t_tape : Nat → Int32)  : Option (Int32 × Unit) :=
  some ((0 : Int32), ())
def b_X6_isWord_28 (fu : Nat) (sx1 : Nat) (t : Nat → Int32) (t_L : Nat → Int64) (t_tape : Nat → Int32) (k_28 : Int32 → Option (Int32 × Unit)) (x : Int32) : Option (Int32 × Unit) :=
  (if (Int32.ofNat (lenS.getD sx1 0)) ≤ x then
        some ((1 : Int32), ())
      else
        gd (inb (t 25 + x) 250) (
        gd (inb x (lenS.getD sx1 0)) (
        (if (t_tape (t 25 + x).toNatClampNeg) = (chS sx1 x.toNatClampNeg) then
          k_28 (x + (1 : Int32))
        else
          some ((0 : Int32), ())))))
def m_X6_isWord (fu : Nat) (sx1 : Nat) (t : Nat → Int32) (t_L : Nat → Int64) (t_tape : Nat → Int32) : Option (Int32 × Unit) :=
  (if t 24 = (1 : Int32) then
    (if (t 23 - t 25) = (Int32.ofNat (lenS.getD sx1 0)) then
      lfix (b_X6_isWord_28 fu sx1 t t_L t_tape) fu (0 : Int32)
    else
      b_X6_isWord_24 fu sx1 t t_L t_tape )
  else
    b_X6_isWord_24 fu sx1 t t_L t_tape )
abbrev rm_X6_isWord : Room := ({ frames := 4, cells := 0, slots := 0, locals := 85 } : Room)
abbrev w0_X6_isWord (cA : Nat → ClassId) (am : Nat → Nat) (tkv : Value) (ttv : Value) (sx1 : Nat) (t : Nat → Int32) (t_L : Nat → Int64) (t_tape : Nat → Int32) : va_W := [((am 0), e_X6 am tkv ttv t t_L), ((am 15), eI cA 250 t_tape)]
abbrev w1_X6_isWord (cA : Nat → ClassId) (am : Nat → Nat) (tkv : Value) (ttv : Value) (sx1 : Nat) (t : Nat → Int32) (t_L : Nat → Int64) (t_tape : Nat → Int32) (u : Unit) : va_W := [((am 0), e_X6 am tkv ttv t t_L), ((am 15), eI cA 250 t_tape)]
theorem hd_X6_isWord : yX6_isWord.cls = RX6 ∧ yX6_isWord.cls ≠ "java/lang/invoke/MethodHandle" ∧ yX6_isWord.cls ≠ "java/lang/invoke/VarHandle" ∧ (parseMethodDescriptor yX6_isWord.desc).map (fun d => d.parameters.length) = some 1 := by decide +kernel
set_option maxHeartbeats 40000000 in
set_option maxRecDepth 100000 in
theorem c_X6_isWord (l : Launch) (D : va_G) (cA : Nat → ClassId) (K V : Nat → Nat) (fv : Value) (sz : Nat) (fu : Nat) (am : Nat → Nat) (tkv : Value) (ttv : Value) (sx1 : Nat) (t : Nat → Int32) (t_L : Nat → Int64) (t_tape : Nat → Int32) (hsx1 : sx1 < 6) (out : Int32 × Unit) (hm : m_X6_isWord fu sx1 t t_L t_tape = some out) : MI1 l yX6_isWord (wU yX6_isWord cX6_isWord 3 ((Option.some Jvm.ClassFile.FieldType.boolean))) rm_X6_isWord D cA K V fv sz [.ref (am 0), .ref (K sx1)] (w0_X6_isWord cA am tkv ttv sx1 t t_L t_tape) out (w1_X6_isWord cA am tkv ttv sx1 t t_L t_tape) := by
  refine Met.ofW (cc := cX6_isWord) (maxL := 3) (ret := (Option.some Jvm.ClassFile.FieldType.boolean)) (by decide) rfl ?_
  intro p e s m args below meth c s₁ B hml hv
  obtain ⟨hargs, ⟨hsz, hP, hK, hD0, hN⟩, hSS⟩ := hv
  have hx := B.exec
  have hb := B.bytes
  have hr := B.returns
  have htg : ∀ w ∈ gw, w.before args s = true := fun w h => atoms_spec (ws := wU yX6_isWord cX6_isWord 3 ((Option.some Jvm.ClassFile.FieldType.boolean))) B.pre w (List.mem_cons_of_mem _ h)
  have hown : s.vm.findClass RX6 = some m.cls := findClass_of_methodNamed B.named
  have hlocks := B.notSynchronized
  subst hsz
  have hD := hD0.self (sz := s.heap.size)
  have hA : ∀ q : Nat, s.heap.size ≤ q → va_A (w0_X6_isWord cA am tkv ttv sx1 t t_L t_tape) s.heap.size q := fun q h => Or.inr h
  have hS : va_S (va_A (w0_X6_isWord cA am tkv ttv sx1 t t_L t_tape) s.heap.size) s.heap s.heap [] := va_S.rf
  generalize va_A (w0_X6_isWord cA am tkv ttv sx1 t t_L t_tape) s.heap.size = A at hA hD hS hSS ⊢
  obtain ⟨Q, hQ⟩ : ∃ Q : State → Prop, Q = MQ below (va_Qi (fun (r : Int32) (u : Unit) => (r, u) = out) (pst0 D cA A (w1_X6_isWord cA am tkv ttv sx1 t t_L t_tape)) A) args s 0 0 A := ⟨_, rfl⟩
  refine (?_ : W p l e rm_X6_isWord s m args below meth c s.heap [] 0 0 (MQ below (va_Qi (fun (r : Int32) (u : Unit) => (r, u) = out) (pst0 D cA A (w1_X6_isWord cA am tkv ttv sx1 t t_L t_tape)) A) args s 0 0 A) (entryFrame m args 3))
  rw [← hQ]
  have hP : va_P D CL [((am 0), e_X6 am tkv ttv t t_L), ((am 15), eI cA 250 t_tape)] s.heap := hP
  have hD : va_D A [((am 0), e_X6 am tkv ttv t t_L), ((am 15), eI cA 250 t_tape)] := hD
  have B_24 : ∀  (H : Heap) (locs : List Loc) (ls : Array Slot), b_X6_isWord_24 fu sx1 t t_L t_tape  = some out → va_P D CL [((am 0), e_X6 am tkv ttv t t_L), ((am 15), eI cA 250 t_tape)] H → va_D A [((am 0), e_X6 am tkv ttv t t_L), ((am 15), eI cA 250 t_tape)] → va_S A s.heap H locs → lv_has ls 3 [(0, .ref (am 0)), (1, .ref (K sx1))] → W p l e rm_X6_isWord s m args below meth c H locs 0 0 Q (F0 m 24 ls []) := by
    intro   H locs ls hm hP hD hS hl
    unfold b_X6_isWord_24 at hm
    refine lv_iconst (v := (0 : Int32)) hx hb dX6_isWord_24 (by decide) ?_
    rw [hQ]
    exact W.zret (v := (0 : Int32)) hx hb hr rfl (fun t9 ht hW => ⟨⟨(0 : Int32), (), rfl, (Option.some.inj hm), by rw [ht]; exact hP, va_K.moved hW.alike hK, hD⟩, hS.F ht⟩) hS.2.2 dX6_isWord_25
  have B_28 : ∀ (n : Nat) (x : Int32) (H : Heap) (locs : List Loc) (ls : Array Slot), lfix (b_X6_isWord_28 fu sx1 t t_L t_tape) n x = some out → va_P D CL [((am 0), e_X6 am tkv ttv t t_L), ((am 15), eI cA 250 t_tape)] H → va_D A [((am 0), e_X6 am tkv ttv t t_L), ((am 15), eI cA 250 t_tape)] → va_S A s.heap H locs → lv_has ls 3 [(0, .ref (am 0)), (1, .ref (K sx1)), (2, .int x)] → W p l e rm_X6_isWord s m args below meth c H locs 0 0 Q (F0 m 28 ls []) := by
    intro  n
    induction n with
    | zero => intro x H locs ls hm; cases (show none = some out from hm)
    | succ n HK_28 =>
      intro x H locs ls hm hP hD hS hl
      replace hm : b_X6_isWord_28 fu sx1 t t_L t_tape (lfix (b_X6_isWord_28 fu sx1 t t_L t_tape) n) x = some out := hm
      unfold b_X6_isWord_28 at hm
      refine lv_iload_n hx hb dX6_isWord_28 rfl (lv_at hl 2 rfl) ?_
      refine lv_aload_n hx hb dX6_isWord_29 rfl (lv_at hl 1 rfl) ?_
      refine xr_i (wr := [((am 0), e_X6 am tkv ttv t t_L), ((am 15), eI cA 250 t_tape)]) (wn := [((am 0), e_X6 am tkv ttv t t_L), ((am 15), eI cA 250 t_tape)]) (va_runV (As := []) (rest := [.int x]) ⟨hx, hb, hml, hown, htg⟩ (c_J0_length_8abf5 l D cA K V fv _ sx1 hsx1) (cwV 0 htg (gV q_5_236 q_3_1 q_3_2 q_1_10 q_3_3) rfl rfl rfl hd_J0_length_8abf5 ⟨Nat.le_of_ble_eq_true rfl, Nat.le_of_ble_eq_true rfl⟩) (xpVs hsx1 hSS hS hA hN hK hP hD) rfl rfl hl.1 rfl (lv_room (Nat.le_of_ble_eq_true rfl)) dX6_isWord_30 ⟨Nat.zero_le _, Nat.zero_le _⟩) hP hD hS hA [] [0, 1] [0, 1] rfl rfl (by decide) (by decide) rfl (by decide) (fun H locs hP hD hS => ?_)
      refine lv_icmp_ge (tgt := 63) hx hb dX6_isWord_33 (by decide) (fun c1 => ?_) (fun c1 => ?_)
      · have hm := it_t c1 hm
        refine lv_iconst (v := (1 : Int32)) hx hb dX6_isWord_63 (by decide) ?_
        rw [hQ]
        exact W.zret (v := (1 : Int32)) hx hb hr rfl (fun t9 ht hW => ⟨⟨(1 : Int32), (), rfl, (Option.some.inj hm), by rw [ht]; exact hP, va_K.moved hW.alike hK, hD⟩, hS.F ht⟩) hS.2.2 dX6_isWord_64
      · have hm := it_f c1 hm
        refine lv_aload_n hx hb dX6_isWord_36 rfl (lv_at hl 0 rfl) ?_
        refine va_get (D := D) (ci := 6) (v := .ref (am 15)) (C := RX6) (T := TX6) (N := 49) hx hb htg inX6 hown hK hP 0 rfl rfl 6 (by decide) (htg _ q_4_195) (fun _ h9 => h9) rfl dX6_isWord_37 ?_
        refine lv_aload_n hx hb dX6_isWord_40 rfl (lv_at hl 0 rfl) ?_
        refine va_get (D := D) (ci := 6) (v := .int (t 25)) (C := RX6) (T := TX6) (N := 49) hx hb htg inX6 hown hK hP 0 rfl rfl 25 (by decide) (htg _ q_4_214) (fun _ h9 => h9) rfl dX6_isWord_41 ?_
        refine lv_iload_n hx hb dX6_isWord_44 rfl (lv_at hl 2 rfl) ?_
        refine lv_iadd hx hb dX6_isWord_45 ?_
        obtain ⟨hi2, hm⟩ := gd_s hm
        refine va_iald hx hb hK hP 1 0 rfl rfl hi2 dX6_isWord_46 ?_
        refine lv_aload_n hx hb dX6_isWord_47 rfl (lv_at hl 1 rfl) ?_
        refine lv_iload_n hx hb dX6_isWord_48 rfl (lv_at hl 2 rfl) ?_
        obtain ⟨hi3, hm⟩ := gd_s hm
        refine xr_i (wr := [((am 0), e_X6 am tkv ttv t t_L), ((am 15), eI cA 250 t_tape)]) (wn := [((am 0), e_X6 am tkv ttv t t_L), ((am 15), eI cA 250 t_tape)]) (va_runV (As := [.int x]) (rest := [.int (t_tape (t 25 + x).toNatClampNeg)]) ⟨hx, hb, hml, hown, htg⟩ (c_J0_charAt_5068e l D cA K V fv _ sx1 hsx1 x hi3) (cwV 1 htg (gV q_5_237 q_3_11 q_3_12 q_1_10 q_3_13) rfl rfl rfl hd_J0_charAt_5068e ⟨Nat.le_of_ble_eq_true rfl, Nat.le_of_ble_eq_true rfl⟩) (xpVs hsx1 hSS hS hA hN hK hP hD) rfl rfl hl.1 rfl (lv_room (Nat.le_of_ble_eq_true rfl)) dX6_isWord_49 ⟨Nat.zero_le _, Nat.zero_le _⟩) hP hD hS hA [] [0, 1] [0, 1] rfl rfl (by decide) (by decide) rfl (by decide) (fun H locs hP hD hS => ?_)
        refine lv_icmp_eq (tgt := 57) hx hb dX6_isWord_52 (by decide) (fun c4 => ?_) (fun c4 => ?_)
        · have hm := it_t c4 hm
          refine lv_iinc (v := (x + (1 : Int32))) (lv' := [(2, .int (x + (1 : Int32))), (0, .ref (am 0)), (1, .ref (K sx1))]) hx hb dX6_isWord_57 hl (k := 2) rfl rfl (by decide) rfl (fun ls hl => ?_)
          refine lv_goto (tgt := 28) hx hb dX6_isWord_60 (by decide) ?_
          exact HK_28 _ _ _ _ hm hP hD hS (lv_sub hl [1, 2, 0] rfl)
        · have hm := it_f c4 hm
          refine lv_iconst (v := (0 : Int32)) hx hb dX6_isWord_55 (by decide) ?_
          rw [hQ]
          exact W.zret (v := (0 : Int32)) hx hb hr rfl (fun t9 ht hW => ⟨⟨(0 : Int32), (), rfl, (Option.some.inj hm), by rw [ht]; exact hP, va_K.moved hW.alike hK, hD⟩, hS.F ht⟩) hS.2.2 dX6_isWord_56
  unfold m_X6_isWord at hm
  subst hargs
  have hl := lv_entry ([.ref (am 0), .ref (K sx1)]) (n := 3) (Nat.le_of_ble_eq_true rfl)
  rw [lg_entry_eq]
  generalize (lg_sl ([.ref (am 0), .ref (K sx1)]) ++ List.replicate (3 - (lg_sl ([.ref (am 0), .ref (K sx1)])).length) Slot.unset).toArray = ls at hl ⊢
  have hl : lv_has ls 3 [(0, .ref (am 0)), (1, .ref (K sx1))] := hl
  refine lv_aload_n hx hb dX6_isWord_0 rfl (lv_at hl 0 rfl) ?_
  refine va_get (D := D) (ci := 6) (v := .int (t 24)) (C := RX6) (T := TX6) (N := 49) hx hb htg inX6 hown hK hP 0 rfl rfl 24 (by decide) (htg _ q_4_213) (fun _ h9 => h9) rfl dX6_isWord_1 ?_
  refine lv_iconst (v := (1 : Int32)) hx hb dX6_isWord_4 (by decide) ?_
  refine lv_icmp_ne (tgt := 24) hx hb dX6_isWord_5 (by decide) (fun c5 => ?_) (fun c5 => ?_)
  · have hm := it_f c5 hm
    exact B_24  _ _ _ hm hP hD hS (lv_sub hl [0, 1] rfl)
  · have hm := it_t c5 hm
    refine lv_aload_n hx hb dX6_isWord_8 rfl (lv_at hl 0 rfl) ?_
    refine va_get (D := D) (ci := 6) (v := .int (t 23)) (C := RX6) (T := TX6) (N := 49) hx hb htg inX6 hown hK hP 0 rfl rfl 23 (by decide) (htg _ q_4_212) (fun _ h9 => h9) rfl dX6_isWord_9 ?_
    refine lv_aload_n hx hb dX6_isWord_12 rfl (lv_at hl 0 rfl) ?_
    refine va_get (D := D) (ci := 6) (v := .int (t 25)) (C := RX6) (T := TX6) (N := 49) hx hb htg inX6 hown hK hP 0 rfl rfl 25 (by decide) (htg _ q_4_214) (fun _ h9 => h9) rfl dX6_isWord_13 ?_
    refine lv_isub hx hb dX6_isWord_16 ?_
    refine lv_aload_n hx hb dX6_isWord_17 rfl (lv_at hl 1 rfl) ?_
    refine xr_i (wr := [((am 0), e_X6 am tkv ttv t t_L), ((am 15), eI cA 250 t_tape)]) (wn := [((am 0), e_X6 am tkv ttv t t_L), ((am 15), eI cA 250 t_tape)]) (va_runV (As := []) (rest := [.int (t 23 - t 25)]) ⟨hx, hb, hml, hown, htg⟩ (c_J0_length_8abf5 l D cA K V fv _ sx1 hsx1) (cwV 0 htg (gV q_5_236 q_3_1 q_3_2 q_1_10 q_3_3) rfl rfl rfl hd_J0_length_8abf5 ⟨Nat.le_of_ble_eq_true rfl, Nat.le_of_ble_eq_true rfl⟩) (xpVs hsx1 hSS hS hA hN hK hP hD) rfl rfl hl.1 rfl (lv_room (Nat.le_of_ble_eq_true rfl)) dX6_isWord_18 ⟨Nat.zero_le _, Nat.zero_le _⟩) hP hD hS hA [] [0, 1] [0, 1] rfl rfl (by decide) (by decide) rfl (by decide) (fun H locs hP hD hS => ?_)
    refine lv_icmp_eq (tgt := 26) hx hb dX6_isWord_21 (by decide) (fun c6 => ?_) (fun c6 => ?_)
    · have hm := it_t c6 hm
      refine lv_iconst (v := (0 : Int32)) hx hb dX6_isWord_26 (by decide) ?_
      refine lv_istore_n (lv' := [(2, .int (0 : Int32)), (0, .ref (am 0)), (1, .ref (K sx1))]) hx hb dX6_isWord_27 rfl hl (by decide) rfl (fun ls hl => ?_)
      exact B_28 fu _ _ _ _ hm hP hD hS (lv_sub hl [1, 2, 0] rfl)
    · have hm := it_f c6 hm
      exact B_24  _ _ _ hm hP hD hS (lv_sub hl [0, 1] rfl)
def b_X6_statement_348 (fu : Nat) (t_L : Nat → Int64) (t_tape : Nat → Int32) (l1 : Int32) (s1 : Int32) (t : Nat → Int32) (t_kind : Nat → Int32) (t_by : Nat → Int32) (t_pitch : Nat → Int32) (t_told : Nat → Int32) : Option (Int32 × ((Nat → Int32) × (Nat → Int32) × (Nat → Int32) × (Nat → Int32) × (Nat → Int32))) :=
  gd (bz l1) (some (l1, ((upd t 13 s1), t_kind, t_by, t_pitch, t_told)))
def b_X6_statement_327 (fu : Nat) (t_L : Nat → Int64) (t_tape : Nat → Int32) (l1 : Int32) (s1 : Int32) (t : Nat → Int32) (t_kind : Nat → Int32) (t_by : Nat → Int32) (t_pitch : Nat → Int32) (t_told : Nat → Int32) : Option (Int32 × ((Nat → Int32) × (Nat → Int32) × (Nat → Int32) × (Nat → Int32) × (Nat → Int32))) :=
  (if l1 = 0 then
      b_X6_statement_348 fu t_L t_tape l1 (t 13) (upd t 12 s1) t_kind t_by t_pitch t_told
    else
      gd (inb (1 : Int32) 4) (
      b_X6_statement_348 fu t_L t_tape l1 (t_told (1 : Int32).toNatClampNeg) (upd t 12 s1) t_kind t_by t_pitch t_told))
def b_X6_statement_308 (fu : Nat) (t_L : Nat → Int64) (t_tape : Nat → Int32) (s0 : Int32) (t : Nat → Int32) (t_kind : Nat → Int32) (t_by : Nat → Int32) (t_pitch : Nat → Int32) (t_told : Nat → Int32) : Option (Int32 × ((Nat → Int32) × (Nat → Int32) × (Nat → Int32) × (Nat → Int32) × (Nat → Int32))) :=
  (if s0 = 0 then
      b_X6_statement_327 fu t_L t_tape s0 (t 12) t t_kind t_by t_pitch t_told
    else
      gd (inb (0 : Int32) 4) (
      b_X6_statement_327 fu t_L t_tape s0 (t_told (0 : Int32).toNatClampNeg) t t_kind t_by t_pitch t_told))
def b_X6_statement_307 (fu : Nat) (t_L : Nat → Int64) (t_tape : Nat → Int32) (t : Nat → Int32) (t_kind : Nat → Int32) (t_by : Nat → Int32) (t_pitch : Nat → Int32) (t_told : Nat → Int32) : Option (Int32 × ((Nat → Int32) × (Nat → Int32) × (Nat → Int32) × (Nat → Int32) × (Nat → Int32))) :=
  b_X6_statement_308 fu t_L t_tape (0 : Int32) t t_kind t_by t_pitch t_told
def b_X6_statement_262 (fu : Nat) (t_L : Nat → Int64) (t_tape : Nat → Int32) (l1 : Int32) (s1 : Int32) (t : Nat → Int32) (t_kind : Nat → Int32) (t_by : Nat → Int32) (t_pitch : Nat → Int32) (t_told : Nat → Int32) : Option (Int32 × ((Nat → Int32) × (Nat → Int32) × (Nat → Int32) × (Nat → Int32) × (Nat → Int32))) :=
  gd (bz l1) (some (l1, ((upd t 11 s1), t_kind, t_by, t_pitch, t_told)))
def b_X6_statement_221 (fu : Nat) (t_L : Nat → Int64) (t_tape : Nat → Int32) (l1 : Int32) (s1 : Int32) (t : Nat → Int32) (t_kind : Nat → Int32) (t_by : Nat → Int32) (t_pitch : Nat → Int32) (t_told : Nat → Int32) : Option (Int32 × ((Nat → Int32) × (Nat → Int32) × (Nat → Int32) × (Nat → Int32) × (Nat → Int32))) :=
  gd (bz l1) (some (l1, ((upd t 10 s1), t_kind, t_by, t_pitch, t_told)))
def b_X6_statement_181 (fu : Nat) (t_L : Nat → Int64) (t_tape : Nat → Int32) (l1 : Int32) (s1 : Int32) (t : Nat → Int32) (t_kind : Nat → Int32) (t_by : Nat → Int32) (t_pitch : Nat → Int32) (t_told : Nat → Int32) : Option (Int32 × ((Nat → Int32) × (Nat → Int32) × (Nat → Int32) × (Nat → Int32) × (Nat → Int32))) :=
  gd (bz l1) (some (l1, ((upd t 9 s1), t_kind, t_by, t_pitch, t_told)))
def b_X6_statement_144 (fu : Nat) (t_L : Nat → Int64) (t_tape : Nat → Int32) (l1 : Int32) (t : Nat → Int32) (t_kind : Nat → Int32) (t_by : Nat → Int32) (t_pitch : Nat → Int32) (t_told : Nat → Int32) : Option (Int32 × ((Nat → Int32) × (Nat → Int32) × (Nat → Int32) × (Nat → Int32) × (Nat → Int32))) :=
  gd (bz l1) (some (l1, (t, t_kind, t_by, t_pitch, t_told)))
def b_X6_statement_122 (fu : Nat) (t_L : Nat → Int64) (t_tape : Nat → Int32) (s0 : Int32) (t : Nat → Int32) (t_kind : Nat → Int32) (t_by : Nat → Int32) (t_pitch : Nat → Int32) (t_told : Nat → Int32) : Option (Int32 × ((Nat → Int32) × (Nat → Int32) × (Nat → Int32) × (Nat → Int32) × (Nat → Int32))) :=
  (if s0 = 0 then
      b_X6_statement_144 fu t_L t_tape s0 t t_kind t_by t_pitch t_told
    else
      gd (inb (0 : Int32) 4) (
      gd (inb (1 : Int32) 4) (
      gd (inb (t_told (0 : Int32).toNatClampNeg) 8) (
      b_X6_statement_144 fu t_L t_tape s0 t t_kind t_by (upd t_pitch (t_told (0 : Int32).toNatClampNeg).toNatClampNeg (t_told (1 : Int32).toNatClampNeg)) t_told))))
def b_X6_statement_121 (fu : Nat) (t_L : Nat → Int64) (t_tape : Nat → Int32) (t : Nat → Int32) (t_kind : Nat → Int32) (t_by : Nat → Int32) (t_pitch : Nat → Int32) (t_told : Nat → Int32) : Option (Int32 × ((Nat → Int32) × (Nat → Int32) × (Nat → Int32) × (Nat → Int32) × (Nat → Int32))) :=
  b_X6_statement_122 fu t_L t_tape (0 : Int32) t t_kind t_by t_pitch t_told
def b_X6_statement_83 (fu : Nat) (t_L : Nat → Int64) (t_tape : Nat → Int32) (t : Nat → Int32) (t_kind : Nat → Int32) (t_by : Nat → Int32) (t_pitch : Nat → Int32) (t_told : Nat → Int32) : Option (Int32 × ((Nat → Int32) × (Nat → Int32) × (Nat → Int32) × (Nat → Int32) × (Nat → Int32))) :=
  (m_X6_isWord fu 1 t t_L t_tape).bind fun o14 =>
    (if o14.1 = 0 then
      (m_X6_isWord fu 3 t t_L t_tape).bind fun o17 =>
      (if o17.1 = 0 then
        (m_X6_isWord fu 4 t t_L t_tape).bind fun o20 =>
        (if o20.1 = 0 then
          (m_X6_isWord fu 5 t t_L t_tape).bind fun o23 =>
          (if o23.1 = 0 then
            (m_X6_isWord fu 2 t t_L t_tape).bind fun o26 =>
            (if o26.1 = 0 then
              (m_X6_wrong fu t t_L).bind fun o29 =>
              gd (bz o29.1) (some (o29.1, (o29.2, t_kind, t_by, t_pitch, t_told)))
            else
              (m_X6_tells fu t t_L t_tape t_told (2 : Int32) (9 : Int32)).bind fun o32 =>
              (if o32.1 = 0 then
                b_X6_statement_307 fu t_L t_tape o32.2.1 t_kind t_by t_pitch o32.2.2
              else
                gd (inb (0 : Int32) 4) (
                (m_X6_number fu o32.2.1 t_L t_tape o32.2.2 (1 : Int32) (0 : Int32) ((o32.2.2 (0 : Int32).toNatClampNeg) - (1 : Int32))).bind fun o36 =>
                (if o36.1 = 0 then
                  b_X6_statement_307 fu t_L t_tape o36.2.1 t_kind t_by t_pitch o36.2.2
                else
                  b_X6_statement_308 fu t_L t_tape (1 : Int32) o36.2.1 t_kind t_by t_pitch o36.2.2))))
          else
            (m_X6_tells fu t t_L t_tape t_told (0 : Int32) (999 : Int32)).bind fun o39 =>
            (if o39.1 = 0 then
              b_X6_statement_262 fu t_L t_tape o39.1 (o39.2.1 11) o39.2.1 t_kind t_by t_pitch o39.2.2
            else
              gd (inb (0 : Int32) 4) (
              b_X6_statement_262 fu t_L t_tape o39.1 (o39.2.2 (0 : Int32).toNatClampNeg) o39.2.1 t_kind t_by t_pitch o39.2.2)))
        else
          (m_X6_tells fu t t_L t_tape t_told (0 : Int32) (9 : Int32)).bind fun o43 =>
          (if o43.1 = 0 then
            b_X6_statement_221 fu t_L t_tape o43.1 (o43.2.1 10) o43.2.1 t_kind t_by t_pitch o43.2.2
          else
            gd (inb (0 : Int32) 4) (
            b_X6_statement_221 fu t_L t_tape o43.1 (o43.2.2 (0 : Int32).toNatClampNeg) o43.2.1 t_kind t_by t_pitch o43.2.2)))
      else
        (m_X6_tells fu t t_L t_tape t_told (0 : Int32) (40 : Int32)).bind fun o47 =>
        (if o47.1 = 0 then
          b_X6_statement_181 fu t_L t_tape o47.1 (o47.2.1 9) o47.2.1 t_kind t_by t_pitch o47.2.2
        else
          gd (inb (0 : Int32) 4) (
          b_X6_statement_181 fu t_L t_tape o47.1 (o47.2.2 (0 : Int32).toNatClampNeg) o47.2.1 t_kind t_by t_pitch o47.2.2)))
    else
      (m_X6_tells fu t t_L t_tape t_told (0 : Int32) (t 16 - (1 : Int32))).bind fun o51 =>
      (if o51.1 = 0 then
        b_X6_statement_121 fu t_L t_tape o51.2.1 t_kind t_by t_pitch o51.2.2
      else
        (m_X6_number fu o51.2.1 t_L t_tape o51.2.2 (1 : Int32) (0 : Int32) (20 : Int32)).bind fun o54 =>
        (if o54.1 = 0 then
          b_X6_statement_121 fu t_L t_tape o54.2.1 t_kind t_by t_pitch o54.2.2
        else
          b_X6_statement_122 fu t_L t_tape (1 : Int32) o54.2.1 t_kind t_by t_pitch o54.2.2)))
def b_X6_statement_81 (fu : Nat) (t_L : Nat → Int64) (t_tape : Nat → Int32) (l1 : Int32) (t : Nat → Int32) (t_kind : Nat → Int32) (t_by : Nat → Int32) (t_pitch : Nat → Int32) (t_told : Nat → Int32) : Option (Int32 × ((Nat → Int32) × (Nat → Int32) × (Nat → Int32) × (Nat → Int32) × (Nat → Int32))) :=
  gd (bz l1) (some (l1, (t, t_kind, t_by, t_pitch, t_told)))
def b_X6_statement_54 (fu : Nat) (t_L : Nat → Int64) (t_tape : Nat → Int32) (s0 : Int32) (t : Nat → Int32) (t_kind : Nat → Int32) (t_by : Nat → Int32) (t_pitch : Nat → Int32) (t_told : Nat → Int32) : Option (Int32 × ((Nat → Int32) × (Nat → Int32) × (Nat → Int32) × (Nat → Int32) × (Nat → Int32))) :=
  (if s0 = 0 then
      b_X6_statement_81 fu t_L t_tape s0 t t_kind t_by t_pitch t_told
    else
      gd (inb (0 : Int32) 4) (
      gd (inb (1 : Int32) 4) (
      gd (inb (2 : Int32) 4) (
      (m_X6_addVoice fu t t_L t_kind t_by t_pitch (t_told (0 : Int32).toNatClampNeg) (t_told (1 : Int32).toNatClampNeg) (t_told (2 : Int32).toNatClampNeg)).bind fun o62 =>
      b_X6_statement_81 fu t_L t_tape s0 o62.1 o62.2.1 o62.2.2.1 o62.2.2.2 t_told))))
def b_X6_statement_53 (fu : Nat) (t_L : Nat → Int64) (t_tape : Nat → Int32) (t : Nat → Int32) (t_kind : Nat → Int32) (t_by : Nat → Int32) (t_pitch : Nat → Int32) (t_told : Nat → Int32) : Option (Int32 × ((Nat → Int32) × (Nat → Int32) × (Nat → Int32) × (Nat → Int32) × (Nat → Int32))) :=
  b_X6_statement_54 fu t_L t_tape (0 : Int32) t t_kind t_by t_pitch t_told
def m_X6_statement (fu : Nat) (t : Nat → Int32) (t_L : Nat → Int64) (t_tape : Nat → Int32) (t_kind : Nat → Int32) (t_by : Nat → Int32) (t_pitch : Nat → Int32) (t_told : Nat → Int32) : Option (Int32 × ((Nat → Int32) × (Nat → Int32) × (Nat → Int32) × (Nat → Int32) × (Nat → Int32))) :=
  (m_X6_isWord fu 0 t t_L t_tape).bind fun o64 =>
  (if o64.1 = 0 then
    b_X6_statement_83 fu t_L t_tape t t_kind t_by t_pitch t_told
  else
    (if (8 : Int32) ≤ t 16 then
      b_X6_statement_83 fu t_L t_tape t t_kind t_by t_pitch t_told
    else
      (m_X6_tells fu t t_L t_tape t_told (0 : Int32) (5 : Int32)).bind fun o68 =>
      (if o68.1 = 0 then
        b_X6_statement_53 fu t_L t_tape o68.2.1 t_kind t_by t_pitch o68.2.2
      else
        (m_X6_number fu o68.2.1 t_L t_tape o68.2.2 (1 : Int32) (0 : Int32) (9 : Int32)).bind fun o71 =>
        (if o71.1 = 0 then
          b_X6_statement_53 fu t_L t_tape o71.2.1 t_kind t_by t_pitch o71.2.2
        else
          (m_X6_number fu o71.2.1 t_L t_tape o71.2.2 (2 : Int32) (0 : Int32) (20 : Int32)).bind fun o74 =>
          (if o74.1 = 0 then
            b_X6_statement_53 fu t_L t_tape o74.2.1 t_kind t_by t_pitch o74.2.2
          else
            b_X6_statement_54 fu t_L t_tape (1 : Int32) o74.2.1 t_kind t_by t_pitch o74.2.2)))))
abbrev rm_X6_statement : Room := ({ frames := 5, cells := 0, slots := 0, locals := 107 } : Room)
abbrev w0_X6_statement (cA : Nat → ClassId) (am : Nat → Nat) (tkv : Value) (ttv : Value) (t : Nat → Int32) (t_L : Nat → Int64) (t_tape : Nat → Int32) (t_kind : Nat → Int32) (t_by : Nat → Int32) (t_pitch : Nat → Int32) (t_told : Nat → Int32) : va_W := [((am 0), e_X6 am tkv ttv t t_L), ((am 15), eI cA 250 t_tape), ((am 17), eI cA 8 t_kind), ((am 18), eI cA 8 t_by), ((am 19), eI cA 8 t_pitch), ((am 20), eI cA 4 t_told)]
abbrev w1_X6_statement (cA : Nat → ClassId) (am : Nat → Nat) (tkv : Value) (ttv : Value) (t_L : Nat → Int64) (t_tape : Nat → Int32) (u : (Nat → Int32) × (Nat → Int32) × (Nat → Int32) × (Nat → Int32) × (Nat → Int32)) : va_W := [((am 0), e_X6 am tkv ttv u.1 t_L), ((am 15), eI cA 250 t_tape), ((am 17), eI cA 8 u.2.1), ((am 18), eI cA 8 u.2.2.1), ((am 19), eI cA 8 u.2.2.2.1), ((am 20), eI cA 4 u.2.2.2.2)]
theorem hd_X6_statement : yX6_statement.cls = RX6 ∧ yX6_statement.cls ≠ "java/lang/invoke/MethodHandle" ∧ yX6_statement.cls ≠ "java/lang/invoke/VarHandle" ∧ (parseMethodDescriptor yX6_statement.desc).map (fun d => d.parameters.length) = some 0 := by decide +kernel
set_option maxHeartbeats 40000000 in
set_option maxRecDepth 100000 in
theorem c_X6_statement (l : Launch) (D : va_G) (cA : Nat → ClassId) (K V : Nat → Nat) (fv : Value) (sz : Nat) (fu : Nat) (am : Nat → Nat) (tkv : Value) (ttv : Value) (t : Nat → Int32) (t_L : Nat → Int64) (t_tape : Nat → Int32) (t_kind : Nat → Int32) (t_by : Nat → Int32) (t_pitch : Nat → Int32) (t_told : Nat → Int32) (out : Int32 × ((Nat → Int32) × (Nat → Int32) × (Nat → Int32) × (Nat → Int32) × (Nat → Int32))) (hm : m_X6_statement fu t t_L t_tape t_kind t_by t_pitch t_told = some out) : MI1 l yX6_statement (wU yX6_statement cX6_statement 2 ((Option.some Jvm.ClassFile.FieldType.boolean))) rm_X6_statement D cA K V fv sz [.ref (am 0)] (w0_X6_statement cA am tkv ttv t t_L t_tape t_kind t_by t_pitch t_told) out (w1_X6_statement cA am tkv ttv t_L t_tape) := by
  refine Met.ofW (cc := cX6_statement) (maxL := 2) (ret := (Option.some Jvm.ClassFile.FieldType.boolean)) (by decide) rfl ?_
  intro p e s m args below meth c s₁ B hml hv
  obtain ⟨hargs, ⟨hsz, hP, hK, hD0, hN⟩, hSS⟩ := hv
  have hx := B.exec
  have hb := B.bytes
  have hr := B.returns
  have htg : ∀ w ∈ gw, w.before args s = true := fun w h => atoms_spec (ws := wU yX6_statement cX6_statement 2 ((Option.some Jvm.ClassFile.FieldType.boolean))) B.pre w (List.mem_cons_of_mem _ h)
  have hown : s.vm.findClass RX6 = some m.cls := findClass_of_methodNamed B.named
  have hlocks := B.notSynchronized
  subst hsz
  have hD := hD0.self (sz := s.heap.size)
  have hA : ∀ q : Nat, s.heap.size ≤ q → va_A (w0_X6_statement cA am tkv ttv t t_L t_tape t_kind t_by t_pitch t_told) s.heap.size q := fun q h => Or.inr h
  have hS : va_S (va_A (w0_X6_statement cA am tkv ttv t t_L t_tape t_kind t_by t_pitch t_told) s.heap.size) s.heap s.heap [] := va_S.rf
  generalize va_A (w0_X6_statement cA am tkv ttv t t_L t_tape t_kind t_by t_pitch t_told) s.heap.size = A at hA hD hS hSS ⊢
  obtain ⟨Q, hQ⟩ : ∃ Q : State → Prop, Q = MQ below (va_Qi (fun (r : Int32) (u : (Nat → Int32) × (Nat → Int32) × (Nat → Int32) × (Nat → Int32) × (Nat → Int32)) => (r, u) = out) (pst0 D cA A (w1_X6_statement cA am tkv ttv t_L t_tape)) A) args s 0 0 A := ⟨_, rfl⟩
  refine (?_ : W p l e rm_X6_statement s m args below meth c s.heap [] 0 0 (MQ below (va_Qi (fun (r : Int32) (u : (Nat → Int32) × (Nat → Int32) × (Nat → Int32) × (Nat → Int32) × (Nat → Int32)) => (r, u) = out) (pst0 D cA A (w1_X6_statement cA am tkv ttv t_L t_tape)) A) args s 0 0 A) (entryFrame m args 2))
  rw [← hQ]
  have hP : va_P D CL [((am 0), e_X6 am tkv ttv t t_L), ((am 15), eI cA 250 t_tape), ((am 17), eI cA 8 t_kind), ((am 18), eI cA 8 t_by), ((am 19), eI cA 8 t_pitch), ((am 20), eI cA 4 t_told)] s.heap := hP
  have hD : va_D A [((am 0), e_X6 am tkv ttv t t_L), ((am 15), eI cA 250 t_tape), ((am 17), eI cA 8 t_kind), ((am 18), eI cA 8 t_by), ((am 19), eI cA 8 t_pitch), ((am 20), eI cA 4 t_told)] := hD
  have B_348 : ∀ (l1 : Int32) (s1 : Int32) (t : Nat → Int32) (t_kind : Nat → Int32) (t_by : Nat → Int32) (t_pitch : Nat → Int32) (t_told : Nat → Int32) (H : Heap) (locs : List Loc) (ls : Array Slot), b_X6_statement_348 fu t_L t_tape l1 s1 t t_kind t_by t_pitch t_told = some out → va_P D CL [((am 0), e_X6 am tkv ttv t t_L), ((am 15), eI cA 250 t_tape), ((am 17), eI cA 8 t_kind), ((am 18), eI cA 8 t_by), ((am 19), eI cA 8 t_pitch), ((am 20), eI cA 4 t_told)] H → va_D A [((am 0), e_X6 am tkv ttv t t_L), ((am 15), eI cA 250 t_tape), ((am 17), eI cA 8 t_kind), ((am 18), eI cA 8 t_by), ((am 19), eI cA 8 t_pitch), ((am 20), eI cA 4 t_told)] → va_S A s.heap H locs → lv_has ls 2 [(0, .ref (am 0)), (1, .int l1)] → W p l e rm_X6_statement s m args below meth c H locs 0 0 Q (F0 m 348 ls [.int s1, .ref (am 0)]) := by
    intro  l1 s1 t t_kind t_by t_pitch t_told H locs ls hm hP hD hS hl
    unfold b_X6_statement_348 at hm
    refine va_put (D := D) (ci := 6) (v := .int s1) (ty := .int) (C := RX6) (T := TX6) (N := 49) hx hb htg inX6 tyX6 tyX6_ok nmX6 hown hK hP hD hS 0 rfl rfl 13 (by decide) (htg _ q_4_202) (fun _ h9 => h9) rfl (by decide +kernel) rfl rfl (Nat.le_of_ble_eq_true rfl) dX6_statement_348 (fun H locs (hP : va_P D CL [((am 0), e_X6 am tkv ttv (upd t 13 s1) t_L), ((am 15), eI cA 250 t_tape), ((am 17), eI cA 8 t_kind), ((am 18), eI cA 8 t_by), ((am 19), eI cA 8 t_pitch), ((am 20), eI cA 4 t_told)] H) (hD : va_D A [((am 0), e_X6 am tkv ttv (upd t 13 s1) t_L), ((am 15), eI cA 250 t_tape), ((am 17), eI cA 8 t_kind), ((am 18), eI cA 8 t_by), ((am 19), eI cA 8 t_pitch), ((am 20), eI cA 4 t_told)]) hS => ?_)
    refine lv_iload_n hx hb dX6_statement_351 rfl (lv_at hl 1 rfl) ?_
    obtain ⟨hz1, hm⟩ := gd_s hm
    rw [hQ]
    exact W.zret (v := l1) hx hb hr (bz_nr hz1) (fun t9 ht hW => ⟨⟨l1, ((upd t 13 s1), t_kind, t_by, t_pitch, t_told), rfl, (Option.some.inj hm), by rw [ht]; exact hP, va_K.moved hW.alike hK, hD⟩, hS.F ht⟩) hS.2.2 dX6_statement_352
  have B_327 : ∀ (l1 : Int32) (s1 : Int32) (t : Nat → Int32) (t_kind : Nat → Int32) (t_by : Nat → Int32) (t_pitch : Nat → Int32) (t_told : Nat → Int32) (H : Heap) (locs : List Loc) (ls : Array Slot), b_X6_statement_327 fu t_L t_tape l1 s1 t t_kind t_by t_pitch t_told = some out → va_P D CL [((am 0), e_X6 am tkv ttv t t_L), ((am 15), eI cA 250 t_tape), ((am 17), eI cA 8 t_kind), ((am 18), eI cA 8 t_by), ((am 19), eI cA 8 t_pitch), ((am 20), eI cA 4 t_told)] H → va_D A [((am 0), e_X6 am tkv ttv t t_L), ((am 15), eI cA 250 t_tape), ((am 17), eI cA 8 t_kind), ((am 18), eI cA 8 t_by), ((am 19), eI cA 8 t_pitch), ((am 20), eI cA 4 t_told)] → va_S A s.heap H locs → lv_has ls 2 [(0, .ref (am 0)), (1, .int l1)] → W p l e rm_X6_statement s m args below meth c H locs 0 0 Q (F0 m 327 ls [.int s1, .ref (am 0)]) := by
    intro  l1 s1 t t_kind t_by t_pitch t_told H locs ls hm hP hD hS hl
    unfold b_X6_statement_327 at hm
    refine va_put (D := D) (ci := 6) (v := .int s1) (ty := .int) (C := RX6) (T := TX6) (N := 49) hx hb htg inX6 tyX6 tyX6_ok nmX6 hown hK hP hD hS 0 rfl rfl 12 (by decide) (htg _ q_4_201) (fun _ h9 => h9) rfl (by decide +kernel) rfl rfl (Nat.le_of_ble_eq_true rfl) dX6_statement_327 (fun H locs (hP : va_P D CL [((am 0), e_X6 am tkv ttv (upd t 12 s1) t_L), ((am 15), eI cA 250 t_tape), ((am 17), eI cA 8 t_kind), ((am 18), eI cA 8 t_by), ((am 19), eI cA 8 t_pitch), ((am 20), eI cA 4 t_told)] H) (hD : va_D A [((am 0), e_X6 am tkv ttv (upd t 12 s1) t_L), ((am 15), eI cA 250 t_tape), ((am 17), eI cA 8 t_kind), ((am 18), eI cA 8 t_by), ((am 19), eI cA 8 t_pitch), ((am 20), eI cA 4 t_told)]) hS => ?_)
    refine lv_aload_n hx hb dX6_statement_330 rfl (lv_at hl 0 rfl) ?_
    refine lv_iload_n hx hb dX6_statement_331 rfl (lv_at hl 1 rfl) ?_
    refine lv_if_eq (tgt := 344) hx hb dX6_statement_332 (by decide) (fun c2 => ?_) (fun c2 => ?_)
    · have hm := it_t c2 hm
      refine lv_aload_n hx hb dX6_statement_344 rfl (lv_at hl 0 rfl) ?_
      refine va_get (D := D) (ci := 6) (v := .int (t 13)) (C := RX6) (T := TX6) (N := 49) hx hb htg inX6 hown hK hP 0 rfl rfl 13 (by decide) (htg _ q_4_202) (fun _ h9 => h9) rfl dX6_statement_345 ?_
      exact B_348 _ _ _ _ _ _ _ _ _ _ hm hP hD hS (lv_sub hl [0, 1] rfl)
    · have hm := it_f c2 hm
      refine lv_aload_n hx hb dX6_statement_335 rfl (lv_at hl 0 rfl) ?_
      refine va_get (D := D) (ci := 6) (v := .ref (am 20)) (C := RX6) (T := TX6) (N := 49) hx hb htg inX6 hown hK hP 0 rfl rfl 28 (by decide) (htg _ q_4_217) (fun _ h9 => h9) rfl dX6_statement_336 ?_
      refine lv_iconst (v := (1 : Int32)) hx hb dX6_statement_339 (by decide) ?_
      obtain ⟨hi3, hm⟩ := gd_s hm
      refine va_iald hx hb hK hP 5 0 rfl rfl hi3 dX6_statement_340 ?_
      refine lv_goto (tgt := 348) hx hb dX6_statement_341 (by decide) ?_
      exact B_348 _ _ _ _ _ _ _ _ _ _ hm hP hD hS (lv_sub hl [0, 1] rfl)
  have B_308 : ∀ (s0 : Int32) (t : Nat → Int32) (t_kind : Nat → Int32) (t_by : Nat → Int32) (t_pitch : Nat → Int32) (t_told : Nat → Int32) (H : Heap) (locs : List Loc) (ls : Array Slot), b_X6_statement_308 fu t_L t_tape s0 t t_kind t_by t_pitch t_told = some out → va_P D CL [((am 0), e_X6 am tkv ttv t t_L), ((am 15), eI cA 250 t_tape), ((am 17), eI cA 8 t_kind), ((am 18), eI cA 8 t_by), ((am 19), eI cA 8 t_pitch), ((am 20), eI cA 4 t_told)] H → va_D A [((am 0), e_X6 am tkv ttv t t_L), ((am 15), eI cA 250 t_tape), ((am 17), eI cA 8 t_kind), ((am 18), eI cA 8 t_by), ((am 19), eI cA 8 t_pitch), ((am 20), eI cA 4 t_told)] → va_S A s.heap H locs → lv_has ls 2 [(0, .ref (am 0))] → W p l e rm_X6_statement s m args below meth c H locs 0 0 Q (F0 m 308 ls [.int s0]) := by
    intro  s0 t t_kind t_by t_pitch t_told H locs ls hm hP hD hS hl
    unfold b_X6_statement_308 at hm
    refine lv_istore_n (lv' := [(1, .int s0), (0, .ref (am 0))]) hx hb dX6_statement_308 rfl hl (by decide) rfl (fun ls hl => ?_)
    refine lv_aload_n hx hb dX6_statement_309 rfl (lv_at hl 1 rfl) ?_
    refine lv_iload_n hx hb dX6_statement_310 rfl (lv_at hl 0 rfl) ?_
    refine lv_if_eq (tgt := 323) hx hb dX6_statement_311 (by decide) (fun c4 => ?_) (fun c4 => ?_)
    · have hm := it_t c4 hm
      refine lv_aload_n hx hb dX6_statement_323 rfl (lv_at hl 1 rfl) ?_
      refine va_get (D := D) (ci := 6) (v := .int (t 12)) (C := RX6) (T := TX6) (N := 49) hx hb htg inX6 hown hK hP 0 rfl rfl 12 (by decide) (htg _ q_4_201) (fun _ h9 => h9) rfl dX6_statement_324 ?_
      exact B_327 _ _ _ _ _ _ _ _ _ _ hm hP hD hS (lv_sub hl [1, 0] rfl)
    · have hm := it_f c4 hm
      refine lv_aload_n hx hb dX6_statement_314 rfl (lv_at hl 1 rfl) ?_
      refine va_get (D := D) (ci := 6) (v := .ref (am 20)) (C := RX6) (T := TX6) (N := 49) hx hb htg inX6 hown hK hP 0 rfl rfl 28 (by decide) (htg _ q_4_217) (fun _ h9 => h9) rfl dX6_statement_315 ?_
      refine lv_iconst (v := (0 : Int32)) hx hb dX6_statement_318 (by decide) ?_
      obtain ⟨hi5, hm⟩ := gd_s hm
      refine va_iald hx hb hK hP 5 0 rfl rfl hi5 dX6_statement_319 ?_
      refine lv_goto (tgt := 327) hx hb dX6_statement_320 (by decide) ?_
      exact B_327 _ _ _ _ _ _ _ _ _ _ hm hP hD hS (lv_sub hl [1, 0] rfl)
  have B_307 : ∀ (t : Nat → Int32) (t_kind : Nat → Int32) (t_by : Nat → Int32) (t_pitch : Nat → Int32) (t_told : Nat → Int32) (H : Heap) (locs : List Loc) (ls : Array Slot), b_X6_statement_307 fu t_L t_tape t t_kind t_by t_pitch t_told = some out → va_P D CL [((am 0), e_X6 am tkv ttv t t_L), ((am 15), eI cA 250 t_tape), ((am 17), eI cA 8 t_kind), ((am 18), eI cA 8 t_by), ((am 19), eI cA 8 t_pitch), ((am 20), eI cA 4 t_told)] H → va_D A [((am 0), e_X6 am tkv ttv t t_L), ((am 15), eI cA 250 t_tape), ((am 17), eI cA 8 t_kind), ((am 18), eI cA 8 t_by), ((am 19), eI cA 8 t_pitch), ((am 20), eI cA 4 t_told)] → va_S A s.heap H locs → lv_has ls 2 [(0, .ref (am 0))] → W p l e rm_X6_statement s m args below meth c H locs 0 0 Q (F0 m 307 ls []) := by
    intro  t t_kind t_by t_pitch t_told H locs ls hm hP hD hS hl
    unfold b_X6_statement_307 at hm
    refine lv_iconst (v := (0 : Int32)) hx hb dX6_statement_307 (by decide) ?_
    exact B_308 _ _ _ _ _ _ _ _ _ hm hP hD hS (lv_sub hl [0] rfl)
  have B_262 : ∀ (l1 : Int32) (s1 : Int32) (t : Nat → Int32) (t_kind : Nat → Int32) (t_by : Nat → Int32) (t_pitch : Nat → Int32) (t_told : Nat → Int32) (H : Heap) (locs : List Loc) (ls : Array Slot), b_X6_statement_262 fu t_L t_tape l1 s1 t t_kind t_by t_pitch t_told = some out → va_P D CL [((am 0), e_X6 am tkv ttv t t_L), ((am 15), eI cA 250 t_tape), ((am 17), eI cA 8 t_kind), ((am 18), eI cA 8 t_by), ((am 19), eI cA 8 t_pitch), ((am 20), eI cA 4 t_told)] H → va_D A [((am 0), e_X6 am tkv ttv t t_L), ((am 15), eI cA 250 t_tape), ((am 17), eI cA 8 t_kind), ((am 18), eI cA 8 t_by), ((am 19), eI cA 8 t_pitch), ((am 20), eI cA 4 t_told)] → va_S A s.heap H locs → lv_has ls 2 [(0, .ref (am 0)), (1, .int l1)] → W p l e rm_X6_statement s m args below meth c H locs 0 0 Q (F0 m 262 ls [.int s1, .ref (am 0)]) := by
    intro  l1 s1 t t_kind t_by t_pitch t_told H locs ls hm hP hD hS hl
    unfold b_X6_statement_262 at hm
    refine va_put (D := D) (ci := 6) (v := .int s1) (ty := .int) (C := RX6) (T := TX6) (N := 49) hx hb htg inX6 tyX6 tyX6_ok nmX6 hown hK hP hD hS 0 rfl rfl 11 (by decide) (htg _ q_4_200) (fun _ h9 => h9) rfl (by decide +kernel) rfl rfl (Nat.le_of_ble_eq_true rfl) dX6_statement_262 (fun H locs (hP : va_P D CL [((am 0), e_X6 am tkv ttv (upd t 11 s1) t_L), ((am 15), eI cA 250 t_tape), ((am 17), eI cA 8 t_kind), ((am 18), eI cA 8 t_by), ((am 19), eI cA 8 t_pitch), ((am 20), eI cA 4 t_told)] H) (hD : va_D A [((am 0), e_X6 am tkv ttv (upd t 11 s1) t_L), ((am 15), eI cA 250 t_tape), ((am 17), eI cA 8 t_kind), ((am 18), eI cA 8 t_by), ((am 19), eI cA 8 t_pitch), ((am 20), eI cA 4 t_told)]) hS => ?_)
    refine lv_iload_n hx hb dX6_statement_265 rfl (lv_at hl 1 rfl) ?_
    obtain ⟨hz6, hm⟩ := gd_s hm
    rw [hQ]
    exact W.zret (v := l1) hx hb hr (bz_nr hz6) (fun t9 ht hW => ⟨⟨l1, ((upd t 11 s1), t_kind, t_by, t_pitch, t_told), rfl, (Option.some.inj hm), by rw [ht]; exact hP, va_K.moved hW.alike hK, hD⟩, hS.F ht⟩) hS.2.2 dX6_statement_266
  have B_221 : ∀ (l1 : Int32) (s1 : Int32) (t : Nat → Int32) (t_kind : Nat → Int32) (t_by : Nat → Int32) (t_pitch : Nat → Int32) (t_told : Nat → Int32) (H : Heap) (locs : List Loc) (ls : Array Slot), b_X6_statement_221 fu t_L t_tape l1 s1 t t_kind t_by t_pitch t_told = some out → va_P D CL [((am 0), e_X6 am tkv ttv t t_L), ((am 15), eI cA 250 t_tape), ((am 17), eI cA 8 t_kind), ((am 18), eI cA 8 t_by), ((am 19), eI cA 8 t_pitch), ((am 20), eI cA 4 t_told)] H → va_D A [((am 0), e_X6 am tkv ttv t t_L), ((am 15), eI cA 250 t_tape), ((am 17), eI cA 8 t_kind), ((am 18), eI cA 8 t_by), ((am 19), eI cA 8 t_pitch), ((am 20), eI cA 4 t_told)] → va_S A s.heap H locs → lv_has ls 2 [(0, .ref (am 0)), (1, .int l1)] → W p l e rm_X6_statement s m args below meth c H locs 0 0 Q (F0 m 221 ls [.int s1, .ref (am 0)]) := by
    intro  l1 s1 t t_kind t_by t_pitch t_told H locs ls hm hP hD hS hl
    unfold b_X6_statement_221 at hm
    refine va_put (D := D) (ci := 6) (v := .int s1) (ty := .int) (C := RX6) (T := TX6) (N := 49) hx hb htg inX6 tyX6 tyX6_ok nmX6 hown hK hP hD hS 0 rfl rfl 10 (by decide) (htg _ q_4_199) (fun _ h9 => h9) rfl (by decide +kernel) rfl rfl (Nat.le_of_ble_eq_true rfl) dX6_statement_221 (fun H locs (hP : va_P D CL [((am 0), e_X6 am tkv ttv (upd t 10 s1) t_L), ((am 15), eI cA 250 t_tape), ((am 17), eI cA 8 t_kind), ((am 18), eI cA 8 t_by), ((am 19), eI cA 8 t_pitch), ((am 20), eI cA 4 t_told)] H) (hD : va_D A [((am 0), e_X6 am tkv ttv (upd t 10 s1) t_L), ((am 15), eI cA 250 t_tape), ((am 17), eI cA 8 t_kind), ((am 18), eI cA 8 t_by), ((am 19), eI cA 8 t_pitch), ((am 20), eI cA 4 t_told)]) hS => ?_)
    refine lv_iload_n hx hb dX6_statement_224 rfl (lv_at hl 1 rfl) ?_
    obtain ⟨hz7, hm⟩ := gd_s hm
    rw [hQ]
    exact W.zret (v := l1) hx hb hr (bz_nr hz7) (fun t9 ht hW => ⟨⟨l1, ((upd t 10 s1), t_kind, t_by, t_pitch, t_told), rfl, (Option.some.inj hm), by rw [ht]; exact hP, va_K.moved hW.alike hK, hD⟩, hS.F ht⟩) hS.2.2 dX6_statement_225
  have B_181 : ∀ (l1 : Int32) (s1 : Int32) (t : Nat → Int32) (t_kind : Nat → Int32) (t_by : Nat → Int32) (t_pitch : Nat → Int32) (t_told : Nat → Int32) (H : Heap) (locs : List Loc) (ls : Array Slot), b_X6_statement_181 fu t_L t_tape l1 s1 t t_kind t_by t_pitch t_told = some out → va_P D CL [((am 0), e_X6 am tkv ttv t t_L), ((am 15), eI cA 250 t_tape), ((am 17), eI cA 8 t_kind), ((am 18), eI cA 8 t_by), ((am 19), eI cA 8 t_pitch), ((am 20), eI cA 4 t_told)] H → va_D A [((am 0), e_X6 am tkv ttv t t_L), ((am 15), eI cA 250 t_tape), ((am 17), eI cA 8 t_kind), ((am 18), eI cA 8 t_by), ((am 19), eI cA 8 t_pitch), ((am 20), eI cA 4 t_told)] → va_S A s.heap H locs → lv_has ls 2 [(0, .ref (am 0)), (1, .int l1)] → W p l e rm_X6_statement s m args below meth c H locs 0 0 Q (F0 m 181 ls [.int s1, .ref (am 0)]) := by
    intro  l1 s1 t t_kind t_by t_pitch t_told H locs ls hm hP hD hS hl
    unfold b_X6_statement_181 at hm
    refine va_put (D := D) (ci := 6) (v := .int s1) (ty := .int) (C := RX6) (T := TX6) (N := 49) hx hb htg inX6 tyX6 tyX6_ok nmX6 hown hK hP hD hS 0 rfl rfl 9 (by decide) (htg _ q_4_198) (fun _ h9 => h9) rfl (by decide +kernel) rfl rfl (Nat.le_of_ble_eq_true rfl) dX6_statement_181 (fun H locs (hP : va_P D CL [((am 0), e_X6 am tkv ttv (upd t 9 s1) t_L), ((am 15), eI cA 250 t_tape), ((am 17), eI cA 8 t_kind), ((am 18), eI cA 8 t_by), ((am 19), eI cA 8 t_pitch), ((am 20), eI cA 4 t_told)] H) (hD : va_D A [((am 0), e_X6 am tkv ttv (upd t 9 s1) t_L), ((am 15), eI cA 250 t_tape), ((am 17), eI cA 8 t_kind), ((am 18), eI cA 8 t_by), ((am 19), eI cA 8 t_pitch), ((am 20), eI cA 4 t_told)]) hS => ?_)
    refine lv_iload_n hx hb dX6_statement_184 rfl (lv_at hl 1 rfl) ?_
    obtain ⟨hz8, hm⟩ := gd_s hm
    rw [hQ]
    exact W.zret (v := l1) hx hb hr (bz_nr hz8) (fun t9 ht hW => ⟨⟨l1, ((upd t 9 s1), t_kind, t_by, t_pitch, t_told), rfl, (Option.some.inj hm), by rw [ht]; exact hP, va_K.moved hW.alike hK, hD⟩, hS.F ht⟩) hS.2.2 dX6_statement_185
  have B_144 : ∀ (l1 : Int32) (t : Nat → Int32) (t_kind : Nat → Int32) (t_by : Nat → Int32) (t_pitch : Nat → Int32) (t_told : Nat → Int32) (H : Heap) (locs : List Loc) (ls : Array Slot), b_X6_statement_144 fu t_L t_tape l1 t t_kind t_by t_pitch t_told = some out → va_P D CL [((am 0), e_X6 am tkv ttv t t_L), ((am 15), eI cA 250 t_tape), ((am 17), eI cA 8 t_kind), ((am 18), eI cA 8 t_by), ((am 19), eI cA 8 t_pitch), ((am 20), eI cA 4 t_told)] H → va_D A [((am 0), e_X6 am tkv ttv t t_L), ((am 15), eI cA 250 t_tape), ((am 17), eI cA 8 t_kind), ((am 18), eI cA 8 t_by), ((am 19), eI cA 8 t_pitch), ((am 20), eI cA 4 t_told)] → va_S A s.heap H locs → lv_has ls 2 [(0, .ref (am 0)), (1, .int l1)] → W p l e rm_X6_statement s m args below meth c H locs 0 0 Q (F0 m 144 ls []) := by
    intro  l1 t t_kind t_by t_pitch t_told H locs ls hm hP hD hS hl
    unfold b_X6_statement_144 at hm
    refine lv_iload_n hx hb dX6_statement_144 rfl (lv_at hl 1 rfl) ?_
    obtain ⟨hz9, hm⟩ := gd_s hm
    rw [hQ]
    exact W.zret (v := l1) hx hb hr (bz_nr hz9) (fun t9 ht hW => ⟨⟨l1, (t, t_kind, t_by, t_pitch, t_told), rfl, (Option.some.inj hm), by rw [ht]; exact hP, va_K.moved hW.alike hK, hD⟩, hS.F ht⟩) hS.2.2 dX6_statement_145
  have B_122 : ∀ (s0 : Int32) (t : Nat → Int32) (t_kind : Nat → Int32) (t_by : Nat → Int32) (t_pitch : Nat → Int32) (t_told : Nat → Int32) (H : Heap) (locs : List Loc) (ls : Array Slot), b_X6_statement_122 fu t_L t_tape s0 t t_kind t_by t_pitch t_told = some out → va_P D CL [((am 0), e_X6 am tkv ttv t t_L), ((am 15), eI cA 250 t_tape), ((am 17), eI cA 8 t_kind), ((am 18), eI cA 8 t_by), ((am 19), eI cA 8 t_pitch), ((am 20), eI cA 4 t_told)] H → va_D A [((am 0), e_X6 am tkv ttv t t_L), ((am 15), eI cA 250 t_tape), ((am 17), eI cA 8 t_kind), ((am 18), eI cA 8 t_by), ((am 19), eI cA 8 t_pitch), ((am 20), eI cA 4 t_told)] → va_S A s.heap H locs → lv_has ls 2 [(0, .ref (am 0))] → W p l e rm_X6_statement s m args below meth c H locs 0 0 Q (F0 m 122 ls [.int s0]) := by
    intro  s0 t t_kind t_by t_pitch t_told H locs ls hm hP hD hS hl
    unfold b_X6_statement_122 at hm
    refine lv_istore_n (lv' := [(1, .int s0), (0, .ref (am 0))]) hx hb dX6_statement_122 rfl hl (by decide) rfl (fun ls hl => ?_)
    refine lv_iload_n hx hb dX6_statement_123 rfl (lv_at hl 0 rfl) ?_
    refine lv_if_eq (tgt := 144) hx hb dX6_statement_124 (by decide) (fun c10 => ?_) (fun c10 => ?_)
    · have hm := it_t c10 hm
      exact B_144 _ _ _ _ _ _ _ _ _ hm hP hD hS (lv_sub hl [1, 0] rfl)
    · have hm := it_f c10 hm
      refine lv_aload_n hx hb dX6_statement_127 rfl (lv_at hl 1 rfl) ?_
      refine va_get (D := D) (ci := 6) (v := .ref (am 19)) (C := RX6) (T := TX6) (N := 49) hx hb htg inX6 hown hK hP 0 rfl rfl 19 (by decide) (htg _ q_4_208) (fun _ h9 => h9) rfl dX6_statement_128 ?_
      refine lv_aload_n hx hb dX6_statement_131 rfl (lv_at hl 1 rfl) ?_
      refine va_get (D := D) (ci := 6) (v := .ref (am 20)) (C := RX6) (T := TX6) (N := 49) hx hb htg inX6 hown hK hP 0 rfl rfl 28 (by decide) (htg _ q_4_217) (fun _ h9 => h9) rfl dX6_statement_132 ?_
      refine lv_iconst (v := (0 : Int32)) hx hb dX6_statement_135 (by decide) ?_
      obtain ⟨hi11, hm⟩ := gd_s hm
      refine va_iald hx hb hK hP 5 0 rfl rfl hi11 dX6_statement_136 ?_
      refine lv_aload_n hx hb dX6_statement_137 rfl (lv_at hl 1 rfl) ?_
      refine va_get (D := D) (ci := 6) (v := .ref (am 20)) (C := RX6) (T := TX6) (N := 49) hx hb htg inX6 hown hK hP 0 rfl rfl 28 (by decide) (htg _ q_4_217) (fun _ h9 => h9) rfl dX6_statement_138 ?_
      refine lv_iconst (v := (1 : Int32)) hx hb dX6_statement_141 (by decide) ?_
      obtain ⟨hi12, hm⟩ := gd_s hm
      refine va_iald hx hb hK hP 5 0 rfl rfl hi12 dX6_statement_142 ?_
      obtain ⟨hi13, hm⟩ := gd_s hm
      refine va_iast hx hb hK hP hD hS 4 0 rfl rfl hi13 dX6_statement_143 (fun H locs (hP : va_P D CL [((am 0), e_X6 am tkv ttv t t_L), ((am 15), eI cA 250 t_tape), ((am 17), eI cA 8 t_kind), ((am 18), eI cA 8 t_by), ((am 19), eI cA 8 (upd t_pitch (t_told (0 : Int32).toNatClampNeg).toNatClampNeg (t_told (1 : Int32).toNatClampNeg))), ((am 20), eI cA 4 t_told)] H) (hD : va_D A [((am 0), e_X6 am tkv ttv t t_L), ((am 15), eI cA 250 t_tape), ((am 17), eI cA 8 t_kind), ((am 18), eI cA 8 t_by), ((am 19), eI cA 8 (upd t_pitch (t_told (0 : Int32).toNatClampNeg).toNatClampNeg (t_told (1 : Int32).toNatClampNeg))), ((am 20), eI cA 4 t_told)]) hS => ?_)
      exact B_144 _ _ _ _ _ _ _ _ _ hm hP hD hS (lv_sub hl [1, 0] rfl)
  have B_121 : ∀ (t : Nat → Int32) (t_kind : Nat → Int32) (t_by : Nat → Int32) (t_pitch : Nat → Int32) (t_told : Nat → Int32) (H : Heap) (locs : List Loc) (ls : Array Slot), b_X6_statement_121 fu t_L t_tape t t_kind t_by t_pitch t_told = some out → va_P D CL [((am 0), e_X6 am tkv ttv t t_L), ((am 15), eI cA 250 t_tape), ((am 17), eI cA 8 t_kind), ((am 18), eI cA 8 t_by), ((am 19), eI cA 8 t_pitch), ((am 20), eI cA 4 t_told)] H → va_D A [((am 0), e_X6 am tkv ttv t t_L), ((am 15), eI cA 250 t_tape), ((am 17), eI cA 8 t_kind), ((am 18), eI cA 8 t_by), ((am 19), eI cA 8 t_pitch), ((am 20), eI cA 4 t_told)] → va_S A s.heap H locs → lv_has ls 2 [(0, .ref (am 0))] → W p l e rm_X6_statement s m args below meth c H locs 0 0 Q (F0 m 121 ls []) := by
    intro  t t_kind t_by t_pitch t_told H locs ls hm hP hD hS hl
    unfold b_X6_statement_121 at hm
    refine lv_iconst (v := (0 : Int32)) hx hb dX6_statement_121 (by decide) ?_
    exact B_122 _ _ _ _ _ _ _ _ _ hm hP hD hS (lv_sub hl [0] rfl)
  have B_83 : ∀ (t : Nat → Int32) (t_kind : Nat → Int32) (t_by : Nat → Int32) (t_pitch : Nat → Int32) (t_told : Nat → Int32) (H : Heap) (locs : List Loc) (ls : Array Slot), b_X6_statement_83 fu t_L t_tape t t_kind t_by t_pitch t_told = some out → va_P D CL [((am 0), e_X6 am tkv ttv t t_L), ((am 15), eI cA 250 t_tape), ((am 17), eI cA 8 t_kind), ((am 18), eI cA 8 t_by), ((am 19), eI cA 8 t_pitch), ((am 20), eI cA 4 t_told)] H → va_D A [((am 0), e_X6 am tkv ttv t t_L), ((am 15), eI cA 250 t_tape), ((am 17), eI cA 8 t_kind), ((am 18), eI cA 8 t_by), ((am 19), eI cA 8 t_pitch), ((am 20), eI cA 4 t_told)] → va_S A s.heap H locs → lv_has ls 2 [(0, .ref (am 0))] → W p l e rm_X6_statement s m args below meth c H locs 0 0 Q (F0 m 83 ls []) := by
    intro  t t_kind t_by t_pitch t_told H locs ls hm hP hD hS hl
    unfold b_X6_statement_83 at hm
    refine lv_aload_n hx hb dX6_statement_83 rfl (lv_at hl 0 rfl) ?_
    refine va_ldcS hx hb hown (hSS.2.2.2.2 ("WellIsAskedFirstModel", 203, "pitch", 1) (List.mem_of_getElem? (i := 7) rfl)) dX6_statement_84 ?_
    obtain ⟨o14, ho15, hm⟩ := bd_s hm
    refine xr_i (wr := [((am 17), eI cA 8 t_kind), ((am 18), eI cA 8 t_by), ((am 19), eI cA 8 t_pitch), ((am 20), eI cA 4 t_told)]) (wn := [((am 0), e_X6 am tkv ttv t t_L), ((am 15), eI cA 250 t_tape), ((am 17), eI cA 8 t_kind), ((am 18), eI cA 8 t_by), ((am 19), eI cA 8 t_pitch), ((am 20), eI cA 4 t_told)]) (va_runV (As := [.ref (K 1)]) (rest := []) ⟨hx, hb, hml, hown, htg⟩ (c_X6_isWord l D cA K V fv _ fu am tkv ttv 1 t t_L t_tape (by decide) o14 ho15) (cwV 1 htg (gV q_5_232 q_5_234 q_p6_3 q_1_8 q_5_235) rfl rfl rfl hd_X6_isWord ⟨Nat.le_of_ble_eq_true rfl, Nat.le_of_ble_eq_true rfl⟩) (xpV1 hSS hS hA hN hK hP hD [0, 1] rfl (by decide) rfl rfl) rfl rfl hl.1 rfl (lv_room (Nat.le_of_ble_eq_true rfl)) dX6_statement_86 ⟨Nat.zero_le _, Nat.zero_le _⟩) hP hD hS hA [0, 1] [2, 3, 4, 5] [4, 5, 0, 1, 2, 3] rfl rfl (by decide) (by decide) rfl (by decide) (fun H locs hP hD hS => ?_)
    refine lv_if_eq (tgt := 146) hx hb dX6_statement_89 (by decide) (fun c16 => ?_) (fun c16 => ?_)
    · have hm := it_t c16 hm
      refine lv_aload_n hx hb dX6_statement_146 rfl (lv_at hl 0 rfl) ?_
      refine va_ldcS hx hb hown (hSS.2.2.2.2 ("WellIsAskedFirstModel", 204, "depth", 3) (List.mem_of_getElem? (i := 8) rfl)) dX6_statement_147 ?_
      obtain ⟨o17, ho18, hm⟩ := bd_s hm
      refine xr_i (wr := [((am 17), eI cA 8 t_kind), ((am 18), eI cA 8 t_by), ((am 19), eI cA 8 t_pitch), ((am 20), eI cA 4 t_told)]) (wn := [((am 0), e_X6 am tkv ttv t t_L), ((am 15), eI cA 250 t_tape), ((am 17), eI cA 8 t_kind), ((am 18), eI cA 8 t_by), ((am 19), eI cA 8 t_pitch), ((am 20), eI cA 4 t_told)]) (va_runV (As := [.ref (K 3)]) (rest := []) ⟨hx, hb, hml, hown, htg⟩ (c_X6_isWord l D cA K V fv _ fu am tkv ttv 3 t t_L t_tape (by decide) o17 ho18) (cwV 1 htg (gV q_5_232 q_5_234 q_p6_3 q_1_8 q_5_235) rfl rfl rfl hd_X6_isWord ⟨Nat.le_of_ble_eq_true rfl, Nat.le_of_ble_eq_true rfl⟩) (xpV1 hSS hS hA hN hK hP hD [0, 1] rfl (by decide) rfl rfl) rfl rfl hl.1 rfl (lv_room (Nat.le_of_ble_eq_true rfl)) dX6_statement_149 ⟨Nat.zero_le _, Nat.zero_le _⟩) hP hD hS hA [0, 1] [2, 3, 4, 5] [4, 5, 0, 1, 2, 3] rfl rfl (by decide) (by decide) rfl (by decide) (fun H locs hP hD hS => ?_)
      refine lv_if_eq (tgt := 186) hx hb dX6_statement_152 (by decide) (fun c19 => ?_) (fun c19 => ?_)
      · have hm := it_t c19 hm
        refine lv_aload_n hx hb dX6_statement_186 rfl (lv_at hl 0 rfl) ?_
        refine va_ldcS hx hb hown (hSS.2.2.2.2 ("WellIsAskedFirstModel", 205, "rain", 4) (List.mem_of_getElem? (i := 9) rfl)) dX6_statement_187 ?_
        obtain ⟨o20, ho21, hm⟩ := bd_s hm
        refine xr_i (wr := [((am 17), eI cA 8 t_kind), ((am 18), eI cA 8 t_by), ((am 19), eI cA 8 t_pitch), ((am 20), eI cA 4 t_told)]) (wn := [((am 0), e_X6 am tkv ttv t t_L), ((am 15), eI cA 250 t_tape), ((am 17), eI cA 8 t_kind), ((am 18), eI cA 8 t_by), ((am 19), eI cA 8 t_pitch), ((am 20), eI cA 4 t_told)]) (va_runV (As := [.ref (K 4)]) (rest := []) ⟨hx, hb, hml, hown, htg⟩ (c_X6_isWord l D cA K V fv _ fu am tkv ttv 4 t t_L t_tape (by decide) o20 ho21) (cwV 1 htg (gV q_5_232 q_5_234 q_p6_3 q_1_8 q_5_235) rfl rfl rfl hd_X6_isWord ⟨Nat.le_of_ble_eq_true rfl, Nat.le_of_ble_eq_true rfl⟩) (xpV1 hSS hS hA hN hK hP hD [0, 1] rfl (by decide) rfl rfl) rfl rfl hl.1 rfl (lv_room (Nat.le_of_ble_eq_true rfl)) dX6_statement_189 ⟨Nat.zero_le _, Nat.zero_le _⟩) hP hD hS hA [0, 1] [2, 3, 4, 5] [4, 5, 0, 1, 2, 3] rfl rfl (by decide) (by decide) rfl (by decide) (fun H locs hP hD hS => ?_)
        refine lv_if_eq (tgt := 226) hx hb dX6_statement_192 (by decide) (fun c22 => ?_) (fun c22 => ?_)
        · have hm := it_t c22 hm
          refine lv_aload_n hx hb dX6_statement_226 rfl (lv_at hl 0 rfl) ?_
          refine va_ldcS hx hb hown (hSS.2.2.2.2 ("WellIsAskedFirstModel", 206, "day", 5) (List.mem_of_getElem? (i := 10) rfl)) dX6_statement_227 ?_
          obtain ⟨o23, ho24, hm⟩ := bd_s hm
          refine xr_i (wr := [((am 17), eI cA 8 t_kind), ((am 18), eI cA 8 t_by), ((am 19), eI cA 8 t_pitch), ((am 20), eI cA 4 t_told)]) (wn := [((am 0), e_X6 am tkv ttv t t_L), ((am 15), eI cA 250 t_tape), ((am 17), eI cA 8 t_kind), ((am 18), eI cA 8 t_by), ((am 19), eI cA 8 t_pitch), ((am 20), eI cA 4 t_told)]) (va_runV (As := [.ref (K 5)]) (rest := []) ⟨hx, hb, hml, hown, htg⟩ (c_X6_isWord l D cA K V fv _ fu am tkv ttv 5 t t_L t_tape (by decide) o23 ho24) (cwV 1 htg (gV q_5_232 q_5_234 q_p6_3 q_1_8 q_5_235) rfl rfl rfl hd_X6_isWord ⟨Nat.le_of_ble_eq_true rfl, Nat.le_of_ble_eq_true rfl⟩) (xpV1 hSS hS hA hN hK hP hD [0, 1] rfl (by decide) rfl rfl) rfl rfl hl.1 rfl (lv_room (Nat.le_of_ble_eq_true rfl)) dX6_statement_229 ⟨Nat.zero_le _, Nat.zero_le _⟩) hP hD hS hA [0, 1] [2, 3, 4, 5] [4, 5, 0, 1, 2, 3] rfl rfl (by decide) (by decide) rfl (by decide) (fun H locs hP hD hS => ?_)
          refine lv_if_eq (tgt := 267) hx hb dX6_statement_232 (by decide) (fun c25 => ?_) (fun c25 => ?_)
          · have hm := it_t c25 hm
            refine lv_aload_n hx hb dX6_statement_267 rfl (lv_at hl 0 rfl) ?_
            refine va_ldcS hx hb hown (hSS.2.2.2.2 ("WellIsAskedFirstModel", 207, "weigh", 2) (List.mem_of_getElem? (i := 11) rfl)) dX6_statement_268 ?_
            obtain ⟨o26, ho27, hm⟩ := bd_s hm
            refine xr_i (wr := [((am 17), eI cA 8 t_kind), ((am 18), eI cA 8 t_by), ((am 19), eI cA 8 t_pitch), ((am 20), eI cA 4 t_told)]) (wn := [((am 0), e_X6 am tkv ttv t t_L), ((am 15), eI cA 250 t_tape), ((am 17), eI cA 8 t_kind), ((am 18), eI cA 8 t_by), ((am 19), eI cA 8 t_pitch), ((am 20), eI cA 4 t_told)]) (va_runV (As := [.ref (K 2)]) (rest := []) ⟨hx, hb, hml, hown, htg⟩ (c_X6_isWord l D cA K V fv _ fu am tkv ttv 2 t t_L t_tape (by decide) o26 ho27) (cwV 1 htg (gV q_5_232 q_5_234 q_p6_3 q_1_8 q_5_235) rfl rfl rfl hd_X6_isWord ⟨Nat.le_of_ble_eq_true rfl, Nat.le_of_ble_eq_true rfl⟩) (xpV1 hSS hS hA hN hK hP hD [0, 1] rfl (by decide) rfl rfl) rfl rfl hl.1 rfl (lv_room (Nat.le_of_ble_eq_true rfl)) dX6_statement_270 ⟨Nat.zero_le _, Nat.zero_le _⟩) hP hD hS hA [0, 1] [2, 3, 4, 5] [4, 5, 0, 1, 2, 3] rfl rfl (by decide) (by decide) rfl (by decide) (fun H locs hP hD hS => ?_)
            refine lv_if_eq (tgt := 353) hx hb dX6_statement_273 (by decide) (fun c28 => ?_) (fun c28 => ?_)
            · have hm := it_t c28 hm
              refine lv_aload_n hx hb dX6_statement_353 rfl (lv_at hl 0 rfl) ?_
              obtain ⟨o29, ho30, hm⟩ := bd_s hm
              refine xr_i (wr := [((am 15), eI cA 250 t_tape), ((am 17), eI cA 8 t_kind), ((am 18), eI cA 8 t_by), ((am 19), eI cA 8 t_pitch), ((am 20), eI cA 4 t_told)]) (wn := [((am 0), e_X6 am tkv ttv o29.2 t_L), ((am 15), eI cA 250 t_tape), ((am 17), eI cA 8 t_kind), ((am 18), eI cA 8 t_by), ((am 19), eI cA 8 t_pitch), ((am 20), eI cA 4 t_told)]) (va_runV (As := []) (rest := []) ⟨hx, hb, hml, hown, htg⟩ (c_X6_wrong l D cA _ fu am tkv ttv t t_L o29 ho30) (cwV 0 htg (gV q_6_6 q_6_8 q_p6_6 q_1_8 q_6_9) rfl rfl rfl hd_X6_wrong ⟨Nat.le_of_ble_eq_true rfl, Nat.le_of_ble_eq_true rfl⟩) (xpV hN hK hP hD [0] rfl (by decide) rfl rfl) rfl rfl hl.1 rfl (lv_room (Nat.le_of_ble_eq_true rfl)) dX6_statement_354 ⟨Nat.zero_le _, Nat.zero_le _⟩) hP hD hS hA [0] [1, 2, 3, 4, 5] [5, 0, 1, 2, 3, 4] rfl rfl (by decide) (by decide) rfl (by decide) (fun H locs hP hD hS => ?_)
              obtain ⟨hz31, hm⟩ := gd_s hm
              rw [hQ]
              exact W.zret (v := o29.1) hx hb hr (bz_nr hz31) (fun t9 ht hW => ⟨⟨o29.1, (o29.2, t_kind, t_by, t_pitch, t_told), rfl, (Option.some.inj hm), by rw [ht]; exact hP, va_K.moved hW.alike hK, hD⟩, hS.F ht⟩) hS.2.2 dX6_statement_357
            · have hm := it_f c28 hm
              refine lv_aload_n hx hb dX6_statement_276 rfl (lv_at hl 0 rfl) ?_
              refine lv_iconst (v := (2 : Int32)) hx hb dX6_statement_277 (by decide) ?_
              refine lv_bipush (v := (9 : Int32)) hx hb dX6_statement_278 (by decide) ?_
              obtain ⟨o32, ho33, hm⟩ := bd_s hm
              refine xr_i (wr := [((am 17), eI cA 8 t_kind), ((am 18), eI cA 8 t_by), ((am 19), eI cA 8 t_pitch)]) (wn := [((am 0), e_X6 am tkv ttv o32.2.1 t_L), ((am 15), eI cA 250 t_tape), ((am 17), eI cA 8 t_kind), ((am 18), eI cA 8 t_by), ((am 19), eI cA 8 t_pitch), ((am 20), eI cA 4 o32.2.2)]) (va_runV (As := [.int (2 : Int32), .int (9 : Int32)]) (rest := []) ⟨hx, hb, hml, hown, htg⟩ (c_X6_tells l D cA _ fu am tkv ttv t t_L t_tape t_told (2 : Int32) (9 : Int32) o32 ho33) (cwV 2 htg (gV q_5_238 q_6_0 q_p6_4 q_1_8 q_6_1) rfl rfl rfl hd_X6_tells ⟨Nat.le_of_ble_eq_true rfl, Nat.le_of_ble_eq_true rfl⟩) (xpV hN hK hP hD [0, 1, 5] rfl (by decide) rfl rfl) rfl rfl hl.1 rfl (lv_room (Nat.le_of_ble_eq_true rfl)) dX6_statement_280 ⟨Nat.zero_le _, Nat.zero_le _⟩) hP hD hS hA [0, 1, 5] [2, 3, 4] [3, 4, 0, 1, 2, 5] rfl rfl (by decide) (by decide) rfl (by decide) (fun H locs hP hD hS => ?_)
              refine lv_if_eq (tgt := 307) hx hb dX6_statement_283 (by decide) (fun c34 => ?_) (fun c34 => ?_)
              · have hm := it_t c34 hm
                exact B_307 _ _ _ _ _ _ _ _ hm hP hD hS (lv_sub hl [0] rfl)
              · have hm := it_f c34 hm
                refine lv_aload_n hx hb dX6_statement_286 rfl (lv_at hl 0 rfl) ?_
                refine lv_iconst (v := (1 : Int32)) hx hb dX6_statement_287 (by decide) ?_
                refine lv_iconst (v := (0 : Int32)) hx hb dX6_statement_288 (by decide) ?_
                refine lv_aload_n hx hb dX6_statement_289 rfl (lv_at hl 0 rfl) ?_
                refine va_get (D := D) (ci := 6) (v := .ref (am 20)) (C := RX6) (T := TX6) (N := 49) hx hb htg inX6 hown hK hP 0 rfl rfl 28 (by decide) (htg _ q_4_217) (fun _ h9 => h9) rfl dX6_statement_290 ?_
                refine lv_iconst (v := (0 : Int32)) hx hb dX6_statement_293 (by decide) ?_
                obtain ⟨hi35, hm⟩ := gd_s hm
                refine va_iald hx hb hK hP 5 0 rfl rfl hi35 dX6_statement_294 ?_
                refine lv_iconst (v := (1 : Int32)) hx hb dX6_statement_295 (by decide) ?_
                refine lv_isub hx hb dX6_statement_296 ?_
                obtain ⟨o36, ho37, hm⟩ := bd_s hm
                refine xr_i (wr := [((am 17), eI cA 8 t_kind), ((am 18), eI cA 8 t_by), ((am 19), eI cA 8 t_pitch)]) (wn := [((am 0), e_X6 am tkv ttv o36.2.1 t_L), ((am 15), eI cA 250 t_tape), ((am 17), eI cA 8 t_kind), ((am 18), eI cA 8 t_by), ((am 19), eI cA 8 t_pitch), ((am 20), eI cA 4 o36.2.2)]) (va_runV (As := [.int (1 : Int32), .int (0 : Int32), .int ((o32.2.2 (0 : Int32).toNatClampNeg) - (1 : Int32))]) (rest := []) ⟨hx, hb, hml, hown, htg⟩ (c_X6_number l D cA _ fu am tkv ttv o32.2.1 t_L t_tape o32.2.2 (1 : Int32) (0 : Int32) ((o32.2.2 (0 : Int32).toNatClampNeg) - (1 : Int32)) o36 ho37) (cwV 3 htg (gV q_6_2 q_6_4 q_p6_5 q_1_8 q_6_5) rfl rfl rfl hd_X6_number ⟨Nat.le_of_ble_eq_true rfl, Nat.le_of_ble_eq_true rfl⟩) (xpV hN hK hP hD [0, 1, 5] rfl (by decide) rfl rfl) rfl rfl hl.1 rfl (lv_room (Nat.le_of_ble_eq_true rfl)) dX6_statement_297 ⟨Nat.zero_le _, Nat.zero_le _⟩) hP hD hS hA [0, 1, 5] [2, 3, 4] [3, 4, 0, 1, 2, 5] rfl rfl (by decide) (by decide) rfl (by decide) (fun H locs hP hD hS => ?_)
                refine lv_if_eq (tgt := 307) hx hb dX6_statement_300 (by decide) (fun c38 => ?_) (fun c38 => ?_)
                · have hm := it_t c38 hm
                  exact B_307 _ _ _ _ _ _ _ _ hm hP hD hS (lv_sub hl [0] rfl)
                · have hm := it_f c38 hm
                  refine lv_iconst (v := (1 : Int32)) hx hb dX6_statement_303 (by decide) ?_
                  refine lv_goto (tgt := 308) hx hb dX6_statement_304 (by decide) ?_
                  exact B_308 _ _ _ _ _ _ _ _ _ hm hP hD hS (lv_sub hl [0] rfl)
          · have hm := it_f c25 hm
            refine lv_aload_n hx hb dX6_statement_235 rfl (lv_at hl 0 rfl) ?_
            refine lv_iconst (v := (0 : Int32)) hx hb dX6_statement_236 (by decide) ?_
            refine lv_sipush (v := (999 : Int32)) hx hb dX6_statement_237 (by decide) ?_
            obtain ⟨o39, ho40, hm⟩ := bd_s hm
            refine xr_i (wr := [((am 17), eI cA 8 t_kind), ((am 18), eI cA 8 t_by), ((am 19), eI cA 8 t_pitch)]) (wn := [((am 0), e_X6 am tkv ttv o39.2.1 t_L), ((am 15), eI cA 250 t_tape), ((am 17), eI cA 8 t_kind), ((am 18), eI cA 8 t_by), ((am 19), eI cA 8 t_pitch), ((am 20), eI cA 4 o39.2.2)]) (va_runV (As := [.int (0 : Int32), .int (999 : Int32)]) (rest := []) ⟨hx, hb, hml, hown, htg⟩ (c_X6_tells l D cA _ fu am tkv ttv t t_L t_tape t_told (0 : Int32) (999 : Int32) o39 ho40) (cwV 2 htg (gV q_5_238 q_6_0 q_p6_4 q_1_8 q_6_1) rfl rfl rfl hd_X6_tells ⟨Nat.le_of_ble_eq_true rfl, Nat.le_of_ble_eq_true rfl⟩) (xpV hN hK hP hD [0, 1, 5] rfl (by decide) rfl rfl) rfl rfl hl.1 rfl (lv_room (Nat.le_of_ble_eq_true rfl)) dX6_statement_240 ⟨Nat.zero_le _, Nat.zero_le _⟩) hP hD hS hA [0, 1, 5] [2, 3, 4] [3, 4, 0, 1, 2, 5] rfl rfl (by decide) (by decide) rfl (by decide) (fun H locs hP hD hS => ?_)
            refine lv_istore_n (lv' := [(1, .int o39.1), (0, .ref (am 0))]) hx hb dX6_statement_243 rfl hl (by decide) rfl (fun ls hl => ?_)
            refine lv_aload_n hx hb dX6_statement_244 rfl (lv_at hl 1 rfl) ?_
            refine lv_iload_n hx hb dX6_statement_245 rfl (lv_at hl 0 rfl) ?_
            refine lv_if_eq (tgt := 258) hx hb dX6_statement_246 (by decide) (fun c41 => ?_) (fun c41 => ?_)
            · have hm := it_t c41 hm
              refine lv_aload_n hx hb dX6_statement_258 rfl (lv_at hl 1 rfl) ?_
              refine va_get (D := D) (ci := 6) (v := .int (o39.2.1 11)) (C := RX6) (T := TX6) (N := 49) hx hb htg inX6 hown hK hP 0 rfl rfl 11 (by decide) (htg _ q_4_200) (fun _ h9 => h9) rfl dX6_statement_259 ?_
              exact B_262 _ _ _ _ _ _ _ _ _ _ hm hP hD hS (lv_sub hl [1, 0] rfl)
            · have hm := it_f c41 hm
              refine lv_aload_n hx hb dX6_statement_249 rfl (lv_at hl 1 rfl) ?_
              refine va_get (D := D) (ci := 6) (v := .ref (am 20)) (C := RX6) (T := TX6) (N := 49) hx hb htg inX6 hown hK hP 0 rfl rfl 28 (by decide) (htg _ q_4_217) (fun _ h9 => h9) rfl dX6_statement_250 ?_
              refine lv_iconst (v := (0 : Int32)) hx hb dX6_statement_253 (by decide) ?_
              obtain ⟨hi42, hm⟩ := gd_s hm
              refine va_iald hx hb hK hP 5 0 rfl rfl hi42 dX6_statement_254 ?_
              refine lv_goto (tgt := 262) hx hb dX6_statement_255 (by decide) ?_
              exact B_262 _ _ _ _ _ _ _ _ _ _ hm hP hD hS (lv_sub hl [1, 0] rfl)
        · have hm := it_f c22 hm
          refine lv_aload_n hx hb dX6_statement_195 rfl (lv_at hl 0 rfl) ?_
          refine lv_iconst (v := (0 : Int32)) hx hb dX6_statement_196 (by decide) ?_
          refine lv_bipush (v := (9 : Int32)) hx hb dX6_statement_197 (by decide) ?_
          obtain ⟨o43, ho44, hm⟩ := bd_s hm
          refine xr_i (wr := [((am 17), eI cA 8 t_kind), ((am 18), eI cA 8 t_by), ((am 19), eI cA 8 t_pitch)]) (wn := [((am 0), e_X6 am tkv ttv o43.2.1 t_L), ((am 15), eI cA 250 t_tape), ((am 17), eI cA 8 t_kind), ((am 18), eI cA 8 t_by), ((am 19), eI cA 8 t_pitch), ((am 20), eI cA 4 o43.2.2)]) (va_runV (As := [.int (0 : Int32), .int (9 : Int32)]) (rest := []) ⟨hx, hb, hml, hown, htg⟩ (c_X6_tells l D cA _ fu am tkv ttv t t_L t_tape t_told (0 : Int32) (9 : Int32) o43 ho44) (cwV 2 htg (gV q_5_238 q_6_0 q_p6_4 q_1_8 q_6_1) rfl rfl rfl hd_X6_tells ⟨Nat.le_of_ble_eq_true rfl, Nat.le_of_ble_eq_true rfl⟩) (xpV hN hK hP hD [0, 1, 5] rfl (by decide) rfl rfl) rfl rfl hl.1 rfl (lv_room (Nat.le_of_ble_eq_true rfl)) dX6_statement_199 ⟨Nat.zero_le _, Nat.zero_le _⟩) hP hD hS hA [0, 1, 5] [2, 3, 4] [3, 4, 0, 1, 2, 5] rfl rfl (by decide) (by decide) rfl (by decide) (fun H locs hP hD hS => ?_)
          refine lv_istore_n (lv' := [(1, .int o43.1), (0, .ref (am 0))]) hx hb dX6_statement_202 rfl hl (by decide) rfl (fun ls hl => ?_)
          refine lv_aload_n hx hb dX6_statement_203 rfl (lv_at hl 1 rfl) ?_
          refine lv_iload_n hx hb dX6_statement_204 rfl (lv_at hl 0 rfl) ?_
          refine lv_if_eq (tgt := 217) hx hb dX6_statement_205 (by decide) (fun c45 => ?_) (fun c45 => ?_)
          · have hm := it_t c45 hm
            refine lv_aload_n hx hb dX6_statement_217 rfl (lv_at hl 1 rfl) ?_
            refine va_get (D := D) (ci := 6) (v := .int (o43.2.1 10)) (C := RX6) (T := TX6) (N := 49) hx hb htg inX6 hown hK hP 0 rfl rfl 10 (by decide) (htg _ q_4_199) (fun _ h9 => h9) rfl dX6_statement_218 ?_
            exact B_221 _ _ _ _ _ _ _ _ _ _ hm hP hD hS (lv_sub hl [1, 0] rfl)
          · have hm := it_f c45 hm
            refine lv_aload_n hx hb dX6_statement_208 rfl (lv_at hl 1 rfl) ?_
            refine va_get (D := D) (ci := 6) (v := .ref (am 20)) (C := RX6) (T := TX6) (N := 49) hx hb htg inX6 hown hK hP 0 rfl rfl 28 (by decide) (htg _ q_4_217) (fun _ h9 => h9) rfl dX6_statement_209 ?_
            refine lv_iconst (v := (0 : Int32)) hx hb dX6_statement_212 (by decide) ?_
            obtain ⟨hi46, hm⟩ := gd_s hm
            refine va_iald hx hb hK hP 5 0 rfl rfl hi46 dX6_statement_213 ?_
            refine lv_goto (tgt := 221) hx hb dX6_statement_214 (by decide) ?_
            exact B_221 _ _ _ _ _ _ _ _ _ _ hm hP hD hS (lv_sub hl [1, 0] rfl)
      · have hm := it_f c19 hm
        refine lv_aload_n hx hb dX6_statement_155 rfl (lv_at hl 0 rfl) ?_
        refine lv_iconst (v := (0 : Int32)) hx hb dX6_statement_156 (by decide) ?_
        refine lv_bipush (v := (40 : Int32)) hx hb dX6_statement_157 (by decide) ?_
        obtain ⟨o47, ho48, hm⟩ := bd_s hm
        refine xr_i (wr := [((am 17), eI cA 8 t_kind), ((am 18), eI cA 8 t_by), ((am 19), eI cA 8 t_pitch)]) (wn := [((am 0), e_X6 am tkv ttv o47.2.1 t_L), ((am 15), eI cA 250 t_tape), ((am 17), eI cA 8 t_kind), ((am 18), eI cA 8 t_by), ((am 19), eI cA 8 t_pitch), ((am 20), eI cA 4 o47.2.2)]) (va_runV (As := [.int (0 : Int32), .int (40 : Int32)]) (rest := []) ⟨hx, hb, hml, hown, htg⟩ (c_X6_tells l D cA _ fu am tkv ttv t t_L t_tape t_told (0 : Int32) (40 : Int32) o47 ho48) (cwV 2 htg (gV q_5_238 q_6_0 q_p6_4 q_1_8 q_6_1) rfl rfl rfl hd_X6_tells ⟨Nat.le_of_ble_eq_true rfl, Nat.le_of_ble_eq_true rfl⟩) (xpV hN hK hP hD [0, 1, 5] rfl (by decide) rfl rfl) rfl rfl hl.1 rfl (lv_room (Nat.le_of_ble_eq_true rfl)) dX6_statement_159 ⟨Nat.zero_le _, Nat.zero_le _⟩) hP hD hS hA [0, 1, 5] [2, 3, 4] [3, 4, 0, 1, 2, 5] rfl rfl (by decide) (by decide) rfl (by decide) (fun H locs hP hD hS => ?_)
        refine lv_istore_n (lv' := [(1, .int o47.1), (0, .ref (am 0))]) hx hb dX6_statement_162 rfl hl (by decide) rfl (fun ls hl => ?_)
        refine lv_aload_n hx hb dX6_statement_163 rfl (lv_at hl 1 rfl) ?_
        refine lv_iload_n hx hb dX6_statement_164 rfl (lv_at hl 0 rfl) ?_
        refine lv_if_eq (tgt := 177) hx hb dX6_statement_165 (by decide) (fun c49 => ?_) (fun c49 => ?_)
        · have hm := it_t c49 hm
          refine lv_aload_n hx hb dX6_statement_177 rfl (lv_at hl 1 rfl) ?_
          refine va_get (D := D) (ci := 6) (v := .int (o47.2.1 9)) (C := RX6) (T := TX6) (N := 49) hx hb htg inX6 hown hK hP 0 rfl rfl 9 (by decide) (htg _ q_4_198) (fun _ h9 => h9) rfl dX6_statement_178 ?_
          exact B_181 _ _ _ _ _ _ _ _ _ _ hm hP hD hS (lv_sub hl [1, 0] rfl)
        · have hm := it_f c49 hm
          refine lv_aload_n hx hb dX6_statement_168 rfl (lv_at hl 1 rfl) ?_
          refine va_get (D := D) (ci := 6) (v := .ref (am 20)) (C := RX6) (T := TX6) (N := 49) hx hb htg inX6 hown hK hP 0 rfl rfl 28 (by decide) (htg _ q_4_217) (fun _ h9 => h9) rfl dX6_statement_169 ?_
          refine lv_iconst (v := (0 : Int32)) hx hb dX6_statement_172 (by decide) ?_
          obtain ⟨hi50, hm⟩ := gd_s hm
          refine va_iald hx hb hK hP 5 0 rfl rfl hi50 dX6_statement_173 ?_
          refine lv_goto (tgt := 181) hx hb dX6_statement_174 (by decide) ?_
          exact B_181 _ _ _ _ _ _ _ _ _ _ hm hP hD hS (lv_sub hl [1, 0] rfl)
    · have hm := it_f c16 hm
      refine lv_aload_n hx hb dX6_statement_92 rfl (lv_at hl 0 rfl) ?_
      refine lv_iconst (v := (0 : Int32)) hx hb dX6_statement_93 (by decide) ?_
      refine lv_aload_n hx hb dX6_statement_94 rfl (lv_at hl 0 rfl) ?_
      refine va_get (D := D) (ci := 6) (v := .int (t 16)) (C := RX6) (T := TX6) (N := 49) hx hb htg inX6 hown hK hP 0 rfl rfl 16 (by decide) (htg _ q_4_205) (fun _ h9 => h9) rfl dX6_statement_95 ?_
      refine lv_iconst (v := (1 : Int32)) hx hb dX6_statement_98 (by decide) ?_
      refine lv_isub hx hb dX6_statement_99 ?_
      obtain ⟨o51, ho52, hm⟩ := bd_s hm
      refine xr_i (wr := [((am 17), eI cA 8 t_kind), ((am 18), eI cA 8 t_by), ((am 19), eI cA 8 t_pitch)]) (wn := [((am 0), e_X6 am tkv ttv o51.2.1 t_L), ((am 15), eI cA 250 t_tape), ((am 17), eI cA 8 t_kind), ((am 18), eI cA 8 t_by), ((am 19), eI cA 8 t_pitch), ((am 20), eI cA 4 o51.2.2)]) (va_runV (As := [.int (0 : Int32), .int (t 16 - (1 : Int32))]) (rest := []) ⟨hx, hb, hml, hown, htg⟩ (c_X6_tells l D cA _ fu am tkv ttv t t_L t_tape t_told (0 : Int32) (t 16 - (1 : Int32)) o51 ho52) (cwV 2 htg (gV q_5_238 q_6_0 q_p6_4 q_1_8 q_6_1) rfl rfl rfl hd_X6_tells ⟨Nat.le_of_ble_eq_true rfl, Nat.le_of_ble_eq_true rfl⟩) (xpV hN hK hP hD [0, 1, 5] rfl (by decide) rfl rfl) rfl rfl hl.1 rfl (lv_room (Nat.le_of_ble_eq_true rfl)) dX6_statement_100 ⟨Nat.zero_le _, Nat.zero_le _⟩) hP hD hS hA [0, 1, 5] [2, 3, 4] [3, 4, 0, 1, 2, 5] rfl rfl (by decide) (by decide) rfl (by decide) (fun H locs hP hD hS => ?_)
      refine lv_if_eq (tgt := 121) hx hb dX6_statement_103 (by decide) (fun c53 => ?_) (fun c53 => ?_)
      · have hm := it_t c53 hm
        exact B_121 _ _ _ _ _ _ _ _ hm hP hD hS (lv_sub hl [0] rfl)
      · have hm := it_f c53 hm
        refine lv_aload_n hx hb dX6_statement_106 rfl (lv_at hl 0 rfl) ?_
        refine lv_iconst (v := (1 : Int32)) hx hb dX6_statement_107 (by decide) ?_
        refine lv_iconst (v := (0 : Int32)) hx hb dX6_statement_108 (by decide) ?_
        refine lv_bipush (v := (20 : Int32)) hx hb dX6_statement_109 (by decide) ?_
        obtain ⟨o54, ho55, hm⟩ := bd_s hm
        refine xr_i (wr := [((am 17), eI cA 8 t_kind), ((am 18), eI cA 8 t_by), ((am 19), eI cA 8 t_pitch)]) (wn := [((am 0), e_X6 am tkv ttv o54.2.1 t_L), ((am 15), eI cA 250 t_tape), ((am 17), eI cA 8 t_kind), ((am 18), eI cA 8 t_by), ((am 19), eI cA 8 t_pitch), ((am 20), eI cA 4 o54.2.2)]) (va_runV (As := [.int (1 : Int32), .int (0 : Int32), .int (20 : Int32)]) (rest := []) ⟨hx, hb, hml, hown, htg⟩ (c_X6_number l D cA _ fu am tkv ttv o51.2.1 t_L t_tape o51.2.2 (1 : Int32) (0 : Int32) (20 : Int32) o54 ho55) (cwV 3 htg (gV q_6_2 q_6_4 q_p6_5 q_1_8 q_6_5) rfl rfl rfl hd_X6_number ⟨Nat.le_of_ble_eq_true rfl, Nat.le_of_ble_eq_true rfl⟩) (xpV hN hK hP hD [0, 1, 5] rfl (by decide) rfl rfl) rfl rfl hl.1 rfl (lv_room (Nat.le_of_ble_eq_true rfl)) dX6_statement_111 ⟨Nat.zero_le _, Nat.zero_le _⟩) hP hD hS hA [0, 1, 5] [2, 3, 4] [3, 4, 0, 1, 2, 5] rfl rfl (by decide) (by decide) rfl (by decide) (fun H locs hP hD hS => ?_)
        refine lv_if_eq (tgt := 121) hx hb dX6_statement_114 (by decide) (fun c56 => ?_) (fun c56 => ?_)
        · have hm := it_t c56 hm
          exact B_121 _ _ _ _ _ _ _ _ hm hP hD hS (lv_sub hl [0] rfl)
        · have hm := it_f c56 hm
          refine lv_iconst (v := (1 : Int32)) hx hb dX6_statement_117 (by decide) ?_
          refine lv_goto (tgt := 122) hx hb dX6_statement_118 (by decide) ?_
          exact B_122 _ _ _ _ _ _ _ _ _ hm hP hD hS (lv_sub hl [0] rfl)
  have B_81 : ∀ (l1 : Int32) (t : Nat → Int32) (t_kind : Nat → Int32) (t_by : Nat → Int32) (t_pitch : Nat → Int32) (t_told : Nat → Int32) (H : Heap) (locs : List Loc) (ls : Array Slot), b_X6_statement_81 fu t_L t_tape l1 t t_kind t_by t_pitch t_told = some out → va_P D CL [((am 0), e_X6 am tkv ttv t t_L), ((am 15), eI cA 250 t_tape), ((am 17), eI cA 8 t_kind), ((am 18), eI cA 8 t_by), ((am 19), eI cA 8 t_pitch), ((am 20), eI cA 4 t_told)] H → va_D A [((am 0), e_X6 am tkv ttv t t_L), ((am 15), eI cA 250 t_tape), ((am 17), eI cA 8 t_kind), ((am 18), eI cA 8 t_by), ((am 19), eI cA 8 t_pitch), ((am 20), eI cA 4 t_told)] → va_S A s.heap H locs → lv_has ls 2 [(0, .ref (am 0)), (1, .int l1)] → W p l e rm_X6_statement s m args below meth c H locs 0 0 Q (F0 m 81 ls []) := by
    intro  l1 t t_kind t_by t_pitch t_told H locs ls hm hP hD hS hl
    unfold b_X6_statement_81 at hm
    refine lv_iload_n hx hb dX6_statement_81 rfl (lv_at hl 1 rfl) ?_
    obtain ⟨hz57, hm⟩ := gd_s hm
    rw [hQ]
    exact W.zret (v := l1) hx hb hr (bz_nr hz57) (fun t9 ht hW => ⟨⟨l1, (t, t_kind, t_by, t_pitch, t_told), rfl, (Option.some.inj hm), by rw [ht]; exact hP, va_K.moved hW.alike hK, hD⟩, hS.F ht⟩) hS.2.2 dX6_statement_82
  have B_54 : ∀ (s0 : Int32) (t : Nat → Int32) (t_kind : Nat → Int32) (t_by : Nat → Int32) (t_pitch : Nat → Int32) (t_told : Nat → Int32) (H : Heap) (locs : List Loc) (ls : Array Slot), b_X6_statement_54 fu t_L t_tape s0 t t_kind t_by t_pitch t_told = some out → va_P D CL [((am 0), e_X6 am tkv ttv t t_L), ((am 15), eI cA 250 t_tape), ((am 17), eI cA 8 t_kind), ((am 18), eI cA 8 t_by), ((am 19), eI cA 8 t_pitch), ((am 20), eI cA 4 t_told)] H → va_D A [((am 0), e_X6 am tkv ttv t t_L), ((am 15), eI cA 250 t_tape), ((am 17), eI cA 8 t_kind), ((am 18), eI cA 8 t_by), ((am 19), eI cA 8 t_pitch), ((am 20), eI cA 4 t_told)] → va_S A s.heap H locs → lv_has ls 2 [(0, .ref (am 0))] → W p l e rm_X6_statement s m args below meth c H locs 0 0 Q (F0 m 54 ls [.int s0]) := by
    intro  s0 t t_kind t_by t_pitch t_told H locs ls hm hP hD hS hl
    unfold b_X6_statement_54 at hm
    refine lv_istore_n (lv' := [(1, .int s0), (0, .ref (am 0))]) hx hb dX6_statement_54 rfl hl (by decide) rfl (fun ls hl => ?_)
    refine lv_iload_n hx hb dX6_statement_55 rfl (lv_at hl 0 rfl) ?_
    refine lv_if_eq (tgt := 81) hx hb dX6_statement_56 (by decide) (fun c58 => ?_) (fun c58 => ?_)
    · have hm := it_t c58 hm
      exact B_81 _ _ _ _ _ _ _ _ _ hm hP hD hS (lv_sub hl [1, 0] rfl)
    · have hm := it_f c58 hm
      refine lv_aload_n hx hb dX6_statement_59 rfl (lv_at hl 1 rfl) ?_
      refine lv_aload_n hx hb dX6_statement_60 rfl (lv_at hl 1 rfl) ?_
      refine va_get (D := D) (ci := 6) (v := .ref (am 20)) (C := RX6) (T := TX6) (N := 49) hx hb htg inX6 hown hK hP 0 rfl rfl 28 (by decide) (htg _ q_4_217) (fun _ h9 => h9) rfl dX6_statement_61 ?_
      refine lv_iconst (v := (0 : Int32)) hx hb dX6_statement_64 (by decide) ?_
      obtain ⟨hi59, hm⟩ := gd_s hm
      refine va_iald hx hb hK hP 5 0 rfl rfl hi59 dX6_statement_65 ?_
      refine lv_aload_n hx hb dX6_statement_66 rfl (lv_at hl 1 rfl) ?_
      refine va_get (D := D) (ci := 6) (v := .ref (am 20)) (C := RX6) (T := TX6) (N := 49) hx hb htg inX6 hown hK hP 0 rfl rfl 28 (by decide) (htg _ q_4_217) (fun _ h9 => h9) rfl dX6_statement_67 ?_
      refine lv_iconst (v := (1 : Int32)) hx hb dX6_statement_70 (by decide) ?_
      obtain ⟨hi60, hm⟩ := gd_s hm
      refine va_iald hx hb hK hP 5 0 rfl rfl hi60 dX6_statement_71 ?_
      refine lv_aload_n hx hb dX6_statement_72 rfl (lv_at hl 1 rfl) ?_
      refine va_get (D := D) (ci := 6) (v := .ref (am 20)) (C := RX6) (T := TX6) (N := 49) hx hb htg inX6 hown hK hP 0 rfl rfl 28 (by decide) (htg _ q_4_217) (fun _ h9 => h9) rfl dX6_statement_73 ?_
      refine lv_iconst (v := (2 : Int32)) hx hb dX6_statement_76 (by decide) ?_
      obtain ⟨hi61, hm⟩ := gd_s hm
      refine va_iald hx hb hK hP 5 0 rfl rfl hi61 dX6_statement_77 ?_
      obtain ⟨o62, ho63, hm⟩ := bd_s hm
      refine xr_v (wr := [((am 15), eI cA 250 t_tape), ((am 20), eI cA 4 t_told)]) (wn := [((am 0), e_X6 am tkv ttv o62.1 t_L), ((am 15), eI cA 250 t_tape), ((am 17), eI cA 8 o62.2.1), ((am 18), eI cA 8 o62.2.2.1), ((am 19), eI cA 8 o62.2.2.2), ((am 20), eI cA 4 t_told)]) (va_runV (As := [.int (t_told (0 : Int32).toNatClampNeg), .int (t_told (1 : Int32).toNatClampNeg), .int (t_told (2 : Int32).toNatClampNeg)]) (rest := []) ⟨hx, hb, hml, hown, htg⟩ (c_X6_addVoice l D cA _ fu am tkv ttv t t_L t_kind t_by t_pitch (t_told (0 : Int32).toNatClampNeg) (t_told (1 : Int32).toNatClampNeg) (t_told (2 : Int32).toNatClampNeg) o62 ho63) (cwV 3 htg (gV q_5_173 q_5_175 q_p5_14 q_1_8 q_5_176) rfl rfl rfl hd_X6_addVoice ⟨Nat.le_of_ble_eq_true rfl, Nat.le_of_ble_eq_true rfl⟩) (xpV hN hK hP hD [0, 2, 3, 4] rfl (by decide) rfl rfl) rfl rfl hl.1 rfl (lv_room (Nat.le_of_ble_eq_true rfl)) dX6_statement_78 ⟨Nat.zero_le _, Nat.zero_le _⟩) hP hD hS hA [0, 2, 3, 4] [1, 5] [2, 0, 3, 4, 5, 1] rfl rfl (by decide) (by decide) rfl (by decide) (fun H locs hP hD hS => ?_)
      exact B_81 _ _ _ _ _ _ _ _ _ hm hP hD hS (lv_sub hl [1, 0] rfl)
  have B_53 : ∀ (t : Nat → Int32) (t_kind : Nat → Int32) (t_by : Nat → Int32) (t_pitch : Nat → Int32) (t_told : Nat → Int32) (H : Heap) (locs : List Loc) (ls : Array Slot), b_X6_statement_53 fu t_L t_tape t t_kind t_by t_pitch t_told = some out → va_P D CL [((am 0), e_X6 am tkv ttv t t_L), ((am 15), eI cA 250 t_tape), ((am 17), eI cA 8 t_kind), ((am 18), eI cA 8 t_by), ((am 19), eI cA 8 t_pitch), ((am 20), eI cA 4 t_told)] H → va_D A [((am 0), e_X6 am tkv ttv t t_L), ((am 15), eI cA 250 t_tape), ((am 17), eI cA 8 t_kind), ((am 18), eI cA 8 t_by), ((am 19), eI cA 8 t_pitch), ((am 20), eI cA 4 t_told)] → va_S A s.heap H locs → lv_has ls 2 [(0, .ref (am 0))] → W p l e rm_X6_statement s m args below meth c H locs 0 0 Q (F0 m 53 ls []) := by
    intro  t t_kind t_by t_pitch t_told H locs ls hm hP hD hS hl
    unfold b_X6_statement_53 at hm
    refine lv_iconst (v := (0 : Int32)) hx hb dX6_statement_53 (by decide) ?_
    exact B_54 _ _ _ _ _ _ _ _ _ hm hP hD hS (lv_sub hl [0] rfl)
  unfold m_X6_statement at hm
  subst hargs
  have hl := lv_entry ([.ref (am 0)]) (n := 2) (Nat.le_of_ble_eq_true rfl)
  rw [lg_entry_eq]
  generalize (lg_sl ([.ref (am 0)]) ++ List.replicate (2 - (lg_sl ([.ref (am 0)])).length) Slot.unset).toArray = ls at hl ⊢
  have hl : lv_has ls 2 [(0, .ref (am 0))] := hl
  refine lv_aload_n hx hb dX6_statement_0 rfl (lv_at hl 0 rfl) ?_
  refine va_ldcS hx hb hown (hSS.2.2.2.2 ("WellIsAskedFirstModel", 194, "voice", 0) (List.mem_of_getElem? (i := 6) rfl)) dX6_statement_1 ?_
  obtain ⟨o64, ho65, hm⟩ := bd_s hm
  refine xr_i (wr := [((am 17), eI cA 8 t_kind), ((am 18), eI cA 8 t_by), ((am 19), eI cA 8 t_pitch), ((am 20), eI cA 4 t_told)]) (wn := [((am 0), e_X6 am tkv ttv t t_L), ((am 15), eI cA 250 t_tape), ((am 17), eI cA 8 t_kind), ((am 18), eI cA 8 t_by), ((am 19), eI cA 8 t_pitch), ((am 20), eI cA 4 t_told)]) (va_runV (As := [.ref (K 0)]) (rest := []) ⟨hx, hb, hml, hown, htg⟩ (c_X6_isWord l D cA K V fv _ fu am tkv ttv 0 t t_L t_tape (by decide) o64 ho65) (cwV 1 htg (gV q_5_232 q_5_234 q_p6_3 q_1_8 q_5_235) rfl rfl rfl hd_X6_isWord ⟨Nat.le_of_ble_eq_true rfl, Nat.le_of_ble_eq_true rfl⟩) (xpV1 hSS hS hA hN hK hP hD [0, 1] rfl (by decide) rfl rfl) rfl rfl hl.1 rfl (lv_room (Nat.le_of_ble_eq_true rfl)) dX6_statement_3 ⟨Nat.zero_le _, Nat.zero_le _⟩) hP hD hS hA [0, 1] [2, 3, 4, 5] [4, 5, 0, 1, 2, 3] rfl rfl (by decide) (by decide) rfl (by decide) (fun H locs hP hD hS => ?_)
  refine lv_if_eq (tgt := 83) hx hb dX6_statement_6 (by decide) (fun c66 => ?_) (fun c66 => ?_)
  · have hm := it_t c66 hm
    exact B_83 _ _ _ _ _ _ _ _ hm hP hD hS (lv_sub hl [0] rfl)
  · have hm := it_f c66 hm
    refine lv_aload_n hx hb dX6_statement_9 rfl (lv_at hl 0 rfl) ?_
    refine va_get (D := D) (ci := 6) (v := .int (t 16)) (C := RX6) (T := TX6) (N := 49) hx hb htg inX6 hown hK hP 0 rfl rfl 16 (by decide) (htg _ q_4_205) (fun _ h9 => h9) rfl dX6_statement_10 ?_
    refine lv_bipush (v := (8 : Int32)) hx hb dX6_statement_13 (by decide) ?_
    refine lv_icmp_ge (tgt := 83) hx hb dX6_statement_15 (by decide) (fun c67 => ?_) (fun c67 => ?_)
    · have hm := it_t c67 hm
      exact B_83 _ _ _ _ _ _ _ _ hm hP hD hS (lv_sub hl [0] rfl)
    · have hm := it_f c67 hm
      refine lv_aload_n hx hb dX6_statement_18 rfl (lv_at hl 0 rfl) ?_
      refine lv_iconst (v := (0 : Int32)) hx hb dX6_statement_19 (by decide) ?_
      refine lv_iconst (v := (5 : Int32)) hx hb dX6_statement_20 (by decide) ?_
      obtain ⟨o68, ho69, hm⟩ := bd_s hm
      refine xr_i (wr := [((am 17), eI cA 8 t_kind), ((am 18), eI cA 8 t_by), ((am 19), eI cA 8 t_pitch)]) (wn := [((am 0), e_X6 am tkv ttv o68.2.1 t_L), ((am 15), eI cA 250 t_tape), ((am 17), eI cA 8 t_kind), ((am 18), eI cA 8 t_by), ((am 19), eI cA 8 t_pitch), ((am 20), eI cA 4 o68.2.2)]) (va_runV (As := [.int (0 : Int32), .int (5 : Int32)]) (rest := []) ⟨hx, hb, hml, hown, htg⟩ (c_X6_tells l D cA _ fu am tkv ttv t t_L t_tape t_told (0 : Int32) (5 : Int32) o68 ho69) (cwV 2 htg (gV q_5_238 q_6_0 q_p6_4 q_1_8 q_6_1) rfl rfl rfl hd_X6_tells ⟨Nat.le_of_ble_eq_true rfl, Nat.le_of_ble_eq_true rfl⟩) (xpV hN hK hP hD [0, 1, 5] rfl (by decide) rfl rfl) rfl rfl hl.1 rfl (lv_room (Nat.le_of_ble_eq_true rfl)) dX6_statement_21 ⟨Nat.zero_le _, Nat.zero_le _⟩) hP hD hS hA [0, 1, 5] [2, 3, 4] [3, 4, 0, 1, 2, 5] rfl rfl (by decide) (by decide) rfl (by decide) (fun H locs hP hD hS => ?_)
      refine lv_if_eq (tgt := 53) hx hb dX6_statement_24 (by decide) (fun c70 => ?_) (fun c70 => ?_)
      · have hm := it_t c70 hm
        exact B_53 _ _ _ _ _ _ _ _ hm hP hD hS (lv_sub hl [0] rfl)
      · have hm := it_f c70 hm
        refine lv_aload_n hx hb dX6_statement_27 rfl (lv_at hl 0 rfl) ?_
        refine lv_iconst (v := (1 : Int32)) hx hb dX6_statement_28 (by decide) ?_
        refine lv_iconst (v := (0 : Int32)) hx hb dX6_statement_29 (by decide) ?_
        refine lv_bipush (v := (9 : Int32)) hx hb dX6_statement_30 (by decide) ?_
        obtain ⟨o71, ho72, hm⟩ := bd_s hm
        refine xr_i (wr := [((am 17), eI cA 8 t_kind), ((am 18), eI cA 8 t_by), ((am 19), eI cA 8 t_pitch)]) (wn := [((am 0), e_X6 am tkv ttv o71.2.1 t_L), ((am 15), eI cA 250 t_tape), ((am 17), eI cA 8 t_kind), ((am 18), eI cA 8 t_by), ((am 19), eI cA 8 t_pitch), ((am 20), eI cA 4 o71.2.2)]) (va_runV (As := [.int (1 : Int32), .int (0 : Int32), .int (9 : Int32)]) (rest := []) ⟨hx, hb, hml, hown, htg⟩ (c_X6_number l D cA _ fu am tkv ttv o68.2.1 t_L t_tape o68.2.2 (1 : Int32) (0 : Int32) (9 : Int32) o71 ho72) (cwV 3 htg (gV q_6_2 q_6_4 q_p6_5 q_1_8 q_6_5) rfl rfl rfl hd_X6_number ⟨Nat.le_of_ble_eq_true rfl, Nat.le_of_ble_eq_true rfl⟩) (xpV hN hK hP hD [0, 1, 5] rfl (by decide) rfl rfl) rfl rfl hl.1 rfl (lv_room (Nat.le_of_ble_eq_true rfl)) dX6_statement_32 ⟨Nat.zero_le _, Nat.zero_le _⟩) hP hD hS hA [0, 1, 5] [2, 3, 4] [3, 4, 0, 1, 2, 5] rfl rfl (by decide) (by decide) rfl (by decide) (fun H locs hP hD hS => ?_)
        refine lv_if_eq (tgt := 53) hx hb dX6_statement_35 (by decide) (fun c73 => ?_) (fun c73 => ?_)
        · have hm := it_t c73 hm
          exact B_53 _ _ _ _ _ _ _ _ hm hP hD hS (lv_sub hl [0] rfl)
        · have hm := it_f c73 hm
          refine lv_aload_n hx hb dX6_statement_38 rfl (lv_at hl 0 rfl) ?_
          refine lv_iconst (v := (2 : Int32)) hx hb dX6_statement_39 (by decide) ?_
          refine lv_iconst (v := (0 : Int32)) hx hb dX6_statement_40 (by decide) ?_
          refine lv_bipush (v := (20 : Int32)) hx hb dX6_statement_41 (by decide) ?_
          obtain ⟨o74, ho75, hm⟩ := bd_s hm
          refine xr_i (wr := [((am 17), eI cA 8 t_kind), ((am 18), eI cA 8 t_by), ((am 19), eI cA 8 t_pitch)]) (wn := [((am 0), e_X6 am tkv ttv o74.2.1 t_L), ((am 15), eI cA 250 t_tape), ((am 17), eI cA 8 t_kind), ((am 18), eI cA 8 t_by), ((am 19), eI cA 8 t_pitch), ((am 20), eI cA 4 o74.2.2)]) (va_runV (As := [.int (2 : Int32), .int (0 : Int32), .int (20 : Int32)]) (rest := []) ⟨hx, hb, hml, hown, htg⟩ (c_X6_number l D cA _ fu am tkv ttv o71.2.1 t_L t_tape o71.2.2 (2 : Int32) (0 : Int32) (20 : Int32) o74 ho75) (cwV 3 htg (gV q_6_2 q_6_4 q_p6_5 q_1_8 q_6_5) rfl rfl rfl hd_X6_number ⟨Nat.le_of_ble_eq_true rfl, Nat.le_of_ble_eq_true rfl⟩) (xpV hN hK hP hD [0, 1, 5] rfl (by decide) rfl rfl) rfl rfl hl.1 rfl (lv_room (Nat.le_of_ble_eq_true rfl)) dX6_statement_43 ⟨Nat.zero_le _, Nat.zero_le _⟩) hP hD hS hA [0, 1, 5] [2, 3, 4] [3, 4, 0, 1, 2, 5] rfl rfl (by decide) (by decide) rfl (by decide) (fun H locs hP hD hS => ?_)
          refine lv_if_eq (tgt := 53) hx hb dX6_statement_46 (by decide) (fun c76 => ?_) (fun c76 => ?_)
          · have hm := it_t c76 hm
            exact B_53 _ _ _ _ _ _ _ _ hm hP hD hS (lv_sub hl [0] rfl)
          · have hm := it_f c76 hm
            refine lv_iconst (v := (1 : Int32)) hx hb dX6_statement_49 (by decide) ?_
            refine lv_goto (tgt := 54) hx hb dX6_statement_50 (by decide) ?_
            exact B_54 _ _ _ _ _ _ _ _ _ hm hP hD hS (lv_sub hl [0] rfl)
def b_X6_readAll_23 (fu : Nat) (t_L : Nat → Int64) (t_tape : Nat → Int32) (k_23 : ((Nat → Int32) × (Nat → Int32) × (Nat → Int32) × (Nat → Int32) × (Nat → Int32)) → Option (Int32 × ((Nat → Int32) × (Nat → Int32) × (Nat → Int32) × (Nat → Int32) × (Nat → Int32)))) (x : (Nat → Int32) × (Nat → Int32) × (Nat → Int32) × (Nat → Int32) × (Nat → Int32)) : Option (Int32 × ((Nat → Int32) × (Nat → Int32) × (Nat → Int32) × (Nat → Int32) × (Nat → Int32))) :=
  (if x.1 24 = 0 then
        some ((1 : Int32), (x.1, x.2.1, x.2.2.1, x.2.2.2.1, x.2.2.2.2))
      else
        (if x.1 24 = (3 : Int32) then
          (m_X6_look fu x.1 t_L t_tape).bind fun o3 =>
          (m_X6_statement fu o3 t_L t_tape x.2.1 x.2.2.1 x.2.2.2.1 x.2.2.2.2).bind fun o5 =>
          (if o5.1 = 0 then
            some ((0 : Int32), (o5.2.1, o5.2.2.1, o5.2.2.2.1, o5.2.2.2.2.1, o5.2.2.2.2.2))
          else
            k_23 ((upd o5.2.1 29 (o5.2.1 29 + (1 : Int32))), o5.2.2.1, o5.2.2.2.1, o5.2.2.2.2.1, o5.2.2.2.2.2))
        else
          (m_X6_wrong fu x.1 t_L).bind fun o8 =>
          gd (bz o8.1) (some (o8.1, (o8.2, x.2.1, x.2.2.1, x.2.2.2.1, x.2.2.2.2)))))
def m_X6_readAll (fu : Nat) (t : Nat → Int32) (t_L : Nat → Int64) (t_tape : Nat → Int32) (t_kind : Nat → Int32) (t_by : Nat → Int32) (t_pitch : Nat → Int32) (t_told : Nat → Int32) : Option (Int32 × ((Nat → Int32) × (Nat → Int32) × (Nat → Int32) × (Nat → Int32) × (Nat → Int32))) :=
  (m_X6_look fu (upd (upd t 29 (1 : Int32)) 23 (0 : Int32)) t_L t_tape).bind fun o11 =>
  (m_X6_statement fu o11 t_L t_tape t_kind t_by t_pitch t_told).bind fun o13 =>
  (if o13.1 = 0 then
    some ((0 : Int32), (o13.2.1, o13.2.2.1, o13.2.2.2.1, o13.2.2.2.2.1, o13.2.2.2.2.2))
  else
    lfix (b_X6_readAll_23 fu t_L t_tape) fu (o13.2.1, o13.2.2.1, o13.2.2.2.1, o13.2.2.2.2.1, o13.2.2.2.2.2))
abbrev rm_X6_readAll : Room := ({ frames := 6, cells := 0, slots := 0, locals := 128 } : Room)
abbrev w0_X6_readAll (cA : Nat → ClassId) (am : Nat → Nat) (tkv : Value) (ttv : Value) (t : Nat → Int32) (t_L : Nat → Int64) (t_tape : Nat → Int32) (t_kind : Nat → Int32) (t_by : Nat → Int32) (t_pitch : Nat → Int32) (t_told : Nat → Int32) : va_W := [((am 0), e_X6 am tkv ttv t t_L), ((am 15), eI cA 250 t_tape), ((am 17), eI cA 8 t_kind), ((am 18), eI cA 8 t_by), ((am 19), eI cA 8 t_pitch), ((am 20), eI cA 4 t_told)]
abbrev w1_X6_readAll (cA : Nat → ClassId) (am : Nat → Nat) (tkv : Value) (ttv : Value) (t_L : Nat → Int64) (t_tape : Nat → Int32) (u : (Nat → Int32) × (Nat → Int32) × (Nat → Int32) × (Nat → Int32) × (Nat → Int32)) : va_W := [((am 0), e_X6 am tkv ttv u.1 t_L), ((am 15), eI cA 250 t_tape), ((am 17), eI cA 8 u.2.1), ((am 18), eI cA 8 u.2.2.1), ((am 19), eI cA 8 u.2.2.2.1), ((am 20), eI cA 4 u.2.2.2.2)]
theorem hd_X6_readAll : yX6_readAll.cls = RX6 ∧ yX6_readAll.cls ≠ "java/lang/invoke/MethodHandle" ∧ yX6_readAll.cls ≠ "java/lang/invoke/VarHandle" ∧ (parseMethodDescriptor yX6_readAll.desc).map (fun d => d.parameters.length) = some 0 := by decide +kernel
set_option maxHeartbeats 40000000 in
set_option maxRecDepth 100000 in
theorem c_X6_readAll (l : Launch) (D : va_G) (cA : Nat → ClassId) (K V : Nat → Nat) (fv : Value) (sz : Nat) (fu : Nat) (am : Nat → Nat) (tkv : Value) (ttv : Value) (t : Nat → Int32) (t_L : Nat → Int64) (t_tape : Nat → Int32) (t_kind : Nat → Int32) (t_by : Nat → Int32) (t_pitch : Nat → Int32) (t_told : Nat → Int32) (out : Int32 × ((Nat → Int32) × (Nat → Int32) × (Nat → Int32) × (Nat → Int32) × (Nat → Int32))) (hm : m_X6_readAll fu t t_L t_tape t_kind t_by t_pitch t_told = some out) : MI1 l yX6_readAll (wU yX6_readAll cX6_readAll 1 ((Option.some Jvm.ClassFile.FieldType.boolean))) rm_X6_readAll D cA K V fv sz [.ref (am 0)] (w0_X6_readAll cA am tkv ttv t t_L t_tape t_kind t_by t_pitch t_told) out (w1_X6_readAll cA am tkv ttv t_L t_tape) := by
  refine Met.ofW (cc := cX6_readAll) (maxL := 1) (ret := (Option.some Jvm.ClassFile.FieldType.boolean)) (by decide) rfl ?_
  intro p e s m args below meth c s₁ B hml hv
  obtain ⟨hargs, ⟨hsz, hP, hK, hD0, hN⟩, hSS⟩ := hv
  have hx := B.exec
  have hb := B.bytes
  have hr := B.returns
  have htg : ∀ w ∈ gw, w.before args s = true := fun w h => atoms_spec (ws := wU yX6_readAll cX6_readAll 1 ((Option.some Jvm.ClassFile.FieldType.boolean))) B.pre w (List.mem_cons_of_mem _ h)
  have hown : s.vm.findClass RX6 = some m.cls := findClass_of_methodNamed B.named
  have hlocks := B.notSynchronized
  subst hsz
  have hD := hD0.self (sz := s.heap.size)
  have hA : ∀ q : Nat, s.heap.size ≤ q → va_A (w0_X6_readAll cA am tkv ttv t t_L t_tape t_kind t_by t_pitch t_told) s.heap.size q := fun q h => Or.inr h
  have hS : va_S (va_A (w0_X6_readAll cA am tkv ttv t t_L t_tape t_kind t_by t_pitch t_told) s.heap.size) s.heap s.heap [] := va_S.rf
  generalize va_A (w0_X6_readAll cA am tkv ttv t t_L t_tape t_kind t_by t_pitch t_told) s.heap.size = A at hA hD hS hSS ⊢
  obtain ⟨Q, hQ⟩ : ∃ Q : State → Prop, Q = MQ below (va_Qi (fun (r : Int32) (u : (Nat → Int32) × (Nat → Int32) × (Nat → Int32) × (Nat → Int32) × (Nat → Int32)) => (r, u) = out) (pst0 D cA A (w1_X6_readAll cA am tkv ttv t_L t_tape)) A) args s 0 0 A := ⟨_, rfl⟩
  refine (?_ : W p l e rm_X6_readAll s m args below meth c s.heap [] 0 0 (MQ below (va_Qi (fun (r : Int32) (u : (Nat → Int32) × (Nat → Int32) × (Nat → Int32) × (Nat → Int32) × (Nat → Int32)) => (r, u) = out) (pst0 D cA A (w1_X6_readAll cA am tkv ttv t_L t_tape)) A) args s 0 0 A) (entryFrame m args 1))
  rw [← hQ]
  have hP : va_P D CL [((am 0), e_X6 am tkv ttv t t_L), ((am 15), eI cA 250 t_tape), ((am 17), eI cA 8 t_kind), ((am 18), eI cA 8 t_by), ((am 19), eI cA 8 t_pitch), ((am 20), eI cA 4 t_told)] s.heap := hP
  have hD : va_D A [((am 0), e_X6 am tkv ttv t t_L), ((am 15), eI cA 250 t_tape), ((am 17), eI cA 8 t_kind), ((am 18), eI cA 8 t_by), ((am 19), eI cA 8 t_pitch), ((am 20), eI cA 4 t_told)] := hD
  have B_23 : ∀ (n : Nat) (x : (Nat → Int32) × (Nat → Int32) × (Nat → Int32) × (Nat → Int32) × (Nat → Int32)) (H : Heap) (locs : List Loc) (ls : Array Slot), lfix (b_X6_readAll_23 fu t_L t_tape) n x = some out → va_P D CL [((am 0), e_X6 am tkv ttv x.1 t_L), ((am 15), eI cA 250 t_tape), ((am 17), eI cA 8 x.2.1), ((am 18), eI cA 8 x.2.2.1), ((am 19), eI cA 8 x.2.2.2.1), ((am 20), eI cA 4 x.2.2.2.2)] H → va_D A [((am 0), e_X6 am tkv ttv x.1 t_L), ((am 15), eI cA 250 t_tape), ((am 17), eI cA 8 x.2.1), ((am 18), eI cA 8 x.2.2.1), ((am 19), eI cA 8 x.2.2.2.1), ((am 20), eI cA 4 x.2.2.2.2)] → va_S A s.heap H locs → lv_has ls 1 [(0, .ref (am 0))] → W p l e rm_X6_readAll s m args below meth c H locs 0 0 Q (F0 m 23 ls []) := by
    intro  n
    induction n with
    | zero => intro x H locs ls hm; cases (show none = some out from hm)
    | succ n HK_23 =>
      intro x H locs ls hm hP hD hS hl
      replace hm : b_X6_readAll_23 fu t_L t_tape (lfix (b_X6_readAll_23 fu t_L t_tape) n) x = some out := hm
      unfold b_X6_readAll_23 at hm
      refine lv_aload_n hx hb dX6_readAll_23 rfl (lv_at hl 0 rfl) ?_
      refine va_get (D := D) (ci := 6) (v := .int (x.1 24)) (C := RX6) (T := TX6) (N := 49) hx hb htg inX6 hown hK hP 0 rfl rfl 24 (by decide) (htg _ q_4_213) (fun _ h9 => h9) rfl dX6_readAll_24 ?_
      refine lv_if_eq (tgt := 69) hx hb dX6_readAll_27 (by decide) (fun c1 => ?_) (fun c1 => ?_)
      · have hm := it_t c1 hm
        refine lv_iconst (v := (1 : Int32)) hx hb dX6_readAll_69 (by decide) ?_
        rw [hQ]
        exact W.zret (v := (1 : Int32)) hx hb hr rfl (fun t9 ht hW => ⟨⟨(1 : Int32), (x.1, x.2.1, x.2.2.1, x.2.2.2.1, x.2.2.2.2), rfl, (Option.some.inj hm), by rw [ht]; exact hP, va_K.moved hW.alike hK, hD⟩, hS.F ht⟩) hS.2.2 dX6_readAll_70
      · have hm := it_f c1 hm
        refine lv_aload_n hx hb dX6_readAll_30 rfl (lv_at hl 0 rfl) ?_
        refine va_get (D := D) (ci := 6) (v := .int (x.1 24)) (C := RX6) (T := TX6) (N := 49) hx hb htg inX6 hown hK hP 0 rfl rfl 24 (by decide) (htg _ q_4_213) (fun _ h9 => h9) rfl dX6_readAll_31 ?_
        refine lv_iconst (v := (3 : Int32)) hx hb dX6_readAll_34 (by decide) ?_
        refine lv_icmp_eq (tgt := 43) hx hb dX6_readAll_35 (by decide) (fun c2 => ?_) (fun c2 => ?_)
        · have hm := it_t c2 hm
          refine lv_aload_n hx hb dX6_readAll_43 rfl (lv_at hl 0 rfl) ?_
          obtain ⟨o3, ho4, hm⟩ := bd_s hm
          refine xr_v (wr := [((am 17), eI cA 8 x.2.1), ((am 18), eI cA 8 x.2.2.1), ((am 19), eI cA 8 x.2.2.2.1), ((am 20), eI cA 4 x.2.2.2.2)]) (wn := [((am 0), e_X6 am tkv ttv o3 t_L), ((am 15), eI cA 250 t_tape), ((am 17), eI cA 8 x.2.1), ((am 18), eI cA 8 x.2.2.1), ((am 19), eI cA 8 x.2.2.2.1), ((am 20), eI cA 4 x.2.2.2.2)]) (va_runV (As := []) (rest := []) ⟨hx, hb, hml, hown, htg⟩ (c_X6_look l D cA _ fu am tkv ttv x.1 t_L t_tape o3 ho4) (cwV 0 htg (gV q_5_217 q_5_219 q_p6_1 q_1_8 q_5_220) rfl rfl rfl hd_X6_look ⟨Nat.le_of_ble_eq_true rfl, Nat.le_of_ble_eq_true rfl⟩) (xpV hN hK hP hD [0, 1] rfl (by decide) rfl rfl) rfl rfl hl.1 rfl (lv_room (Nat.le_of_ble_eq_true rfl)) dX6_readAll_44 ⟨Nat.zero_le _, Nat.zero_le _⟩) hP hD hS hA [0, 1] [2, 3, 4, 5] [4, 5, 0, 1, 2, 3] rfl rfl (by decide) (by decide) rfl (by decide) (fun H locs hP hD hS => ?_)
          refine lv_aload_n hx hb dX6_readAll_47 rfl (lv_at hl 0 rfl) ?_
          obtain ⟨o5, ho6, hm⟩ := bd_s hm
          refine xr_i (wr := []) (wn := [((am 0), e_X6 am tkv ttv o5.2.1 t_L), ((am 15), eI cA 250 t_tape), ((am 17), eI cA 8 o5.2.2.1), ((am 18), eI cA 8 o5.2.2.2.1), ((am 19), eI cA 8 o5.2.2.2.2.1), ((am 20), eI cA 4 o5.2.2.2.2.2)]) (va_runV (As := []) (rest := []) ⟨hx, hb, hml, hown, htg⟩ (c_X6_statement l D cA K V fv _ fu am tkv ttv o3 t_L t_tape x.2.1 x.2.2.1 x.2.2.2.1 x.2.2.2.2 o5 ho6) (cwV 0 htg (gV q_5_227 q_5_229 q_p6_2 q_1_8 q_5_230) rfl rfl rfl hd_X6_statement ⟨Nat.le_of_ble_eq_true rfl, Nat.le_of_ble_eq_true rfl⟩) (xpV1 hSS hS hA hN hK hP hD [0, 1, 2, 3, 4, 5] rfl (by decide) rfl rfl) rfl rfl hl.1 rfl (lv_room (Nat.le_of_ble_eq_true rfl)) dX6_readAll_48 ⟨Nat.zero_le _, Nat.zero_le _⟩) hP hD hS hA [0, 1, 2, 3, 4, 5] [] [0, 1, 2, 3, 4, 5] rfl rfl (by decide) (by decide) rfl (by decide) (fun H locs hP hD hS => ?_)
          refine lv_if_ne (tgt := 56) hx hb dX6_readAll_51 (by decide) (fun c7 => ?_) (fun c7 => ?_)
          · have hm := it_f c7 hm
            refine lv_aload_n hx hb dX6_readAll_56 rfl (lv_at hl 0 rfl) ?_
            refine lv_dup hx hb dX6_readAll_57 rfl ?_
            refine va_get (D := D) (ci := 6) (v := .int (o5.2.1 29)) (C := RX6) (T := TX6) (N := 49) hx hb htg inX6 hown hK hP 0 rfl rfl 29 (by decide) (htg _ q_4_218) (fun _ h9 => h9) rfl dX6_readAll_58 ?_
            refine lv_iconst (v := (1 : Int32)) hx hb dX6_readAll_61 (by decide) ?_
            refine lv_iadd hx hb dX6_readAll_62 ?_
            refine va_put (D := D) (ci := 6) (v := .int (o5.2.1 29 + (1 : Int32))) (ty := .int) (C := RX6) (T := TX6) (N := 49) hx hb htg inX6 tyX6 tyX6_ok nmX6 hown hK hP hD hS 0 rfl rfl 29 (by decide) (htg _ q_4_218) (fun _ h9 => h9) rfl (by decide +kernel) rfl rfl (Nat.le_of_ble_eq_true rfl) dX6_readAll_63 (fun H locs (hP : va_P D CL [((am 0), e_X6 am tkv ttv (upd o5.2.1 29 (o5.2.1 29 + (1 : Int32))) t_L), ((am 15), eI cA 250 t_tape), ((am 17), eI cA 8 o5.2.2.1), ((am 18), eI cA 8 o5.2.2.2.1), ((am 19), eI cA 8 o5.2.2.2.2.1), ((am 20), eI cA 4 o5.2.2.2.2.2)] H) (hD : va_D A [((am 0), e_X6 am tkv ttv (upd o5.2.1 29 (o5.2.1 29 + (1 : Int32))) t_L), ((am 15), eI cA 250 t_tape), ((am 17), eI cA 8 o5.2.2.1), ((am 18), eI cA 8 o5.2.2.2.1), ((am 19), eI cA 8 o5.2.2.2.2.1), ((am 20), eI cA 4 o5.2.2.2.2.2)]) hS => ?_)
            refine lv_goto (tgt := 23) hx hb dX6_readAll_66 (by decide) ?_
            exact HK_23 _ _ _ _ hm hP hD hS (lv_sub hl [0] rfl)
          · have hm := it_t c7 hm
            refine lv_iconst (v := (0 : Int32)) hx hb dX6_readAll_54 (by decide) ?_
            rw [hQ]
            exact W.zret (v := (0 : Int32)) hx hb hr rfl (fun t9 ht hW => ⟨⟨(0 : Int32), (o5.2.1, o5.2.2.1, o5.2.2.2.1, o5.2.2.2.2.1, o5.2.2.2.2.2), rfl, (Option.some.inj hm), by rw [ht]; exact hP, va_K.moved hW.alike hK, hD⟩, hS.F ht⟩) hS.2.2 dX6_readAll_55
        · have hm := it_f c2 hm
          refine lv_aload_n hx hb dX6_readAll_38 rfl (lv_at hl 0 rfl) ?_
          obtain ⟨o8, ho9, hm⟩ := bd_s hm
          refine xr_i (wr := [((am 15), eI cA 250 t_tape), ((am 17), eI cA 8 x.2.1), ((am 18), eI cA 8 x.2.2.1), ((am 19), eI cA 8 x.2.2.2.1), ((am 20), eI cA 4 x.2.2.2.2)]) (wn := [((am 0), e_X6 am tkv ttv o8.2 t_L), ((am 15), eI cA 250 t_tape), ((am 17), eI cA 8 x.2.1), ((am 18), eI cA 8 x.2.2.1), ((am 19), eI cA 8 x.2.2.2.1), ((am 20), eI cA 4 x.2.2.2.2)]) (va_runV (As := []) (rest := []) ⟨hx, hb, hml, hown, htg⟩ (c_X6_wrong l D cA _ fu am tkv ttv x.1 t_L o8 ho9) (cwV 0 htg (gV q_6_6 q_6_8 q_p6_6 q_1_8 q_6_9) rfl rfl rfl hd_X6_wrong ⟨Nat.le_of_ble_eq_true rfl, Nat.le_of_ble_eq_true rfl⟩) (xpV hN hK hP hD [0] rfl (by decide) rfl rfl) rfl rfl hl.1 rfl (lv_room (Nat.le_of_ble_eq_true rfl)) dX6_readAll_39 ⟨Nat.zero_le _, Nat.zero_le _⟩) hP hD hS hA [0] [1, 2, 3, 4, 5] [5, 0, 1, 2, 3, 4] rfl rfl (by decide) (by decide) rfl (by decide) (fun H locs hP hD hS => ?_)
          obtain ⟨hz10, hm⟩ := gd_s hm
          rw [hQ]
          exact W.zret (v := o8.1) hx hb hr (bz_nr hz10) (fun t9 ht hW => ⟨⟨o8.1, (o8.2, x.2.1, x.2.2.1, x.2.2.2.1, x.2.2.2.2), rfl, (Option.some.inj hm), by rw [ht]; exact hP, va_K.moved hW.alike hK, hD⟩, hS.F ht⟩) hS.2.2 dX6_readAll_42
  unfold m_X6_readAll at hm
  subst hargs
  have hl := lv_entry ([.ref (am 0)]) (n := 1) (Nat.le_of_ble_eq_true rfl)
  rw [lg_entry_eq]
  generalize (lg_sl ([.ref (am 0)]) ++ List.replicate (1 - (lg_sl ([.ref (am 0)])).length) Slot.unset).toArray = ls at hl ⊢
  have hl : lv_has ls 1 [(0, .ref (am 0))] := hl
  refine lv_aload_n hx hb dX6_readAll_0 rfl (lv_at hl 0 rfl) ?_
  refine lv_iconst (v := (1 : Int32)) hx hb dX6_readAll_1 (by decide) ?_
  refine va_put (D := D) (ci := 6) (v := .int (1 : Int32)) (ty := .int) (C := RX6) (T := TX6) (N := 49) hx hb htg inX6 tyX6 tyX6_ok nmX6 hown hK hP hD hS 0 rfl rfl 29 (by decide) (htg _ q_4_218) (fun _ h9 => h9) rfl (by decide +kernel) rfl rfl (Nat.le_of_ble_eq_true rfl) dX6_readAll_2 (fun H locs (hP : va_P D CL [((am 0), e_X6 am tkv ttv (upd t 29 (1 : Int32)) t_L), ((am 15), eI cA 250 t_tape), ((am 17), eI cA 8 t_kind), ((am 18), eI cA 8 t_by), ((am 19), eI cA 8 t_pitch), ((am 20), eI cA 4 t_told)] H) (hD : va_D A [((am 0), e_X6 am tkv ttv (upd t 29 (1 : Int32)) t_L), ((am 15), eI cA 250 t_tape), ((am 17), eI cA 8 t_kind), ((am 18), eI cA 8 t_by), ((am 19), eI cA 8 t_pitch), ((am 20), eI cA 4 t_told)]) hS => ?_)
  refine lv_aload_n hx hb dX6_readAll_5 rfl (lv_at hl 0 rfl) ?_
  refine lv_iconst (v := (0 : Int32)) hx hb dX6_readAll_6 (by decide) ?_
  refine va_put (D := D) (ci := 6) (v := .int (0 : Int32)) (ty := .int) (C := RX6) (T := TX6) (N := 49) hx hb htg inX6 tyX6 tyX6_ok nmX6 hown hK hP hD hS 0 rfl rfl 23 (by decide) (htg _ q_4_212) (fun _ h9 => h9) rfl (by decide +kernel) rfl rfl (Nat.le_of_ble_eq_true rfl) dX6_readAll_7 (fun H locs (hP : va_P D CL [((am 0), e_X6 am tkv ttv (upd (upd t 29 (1 : Int32)) 23 (0 : Int32)) t_L), ((am 15), eI cA 250 t_tape), ((am 17), eI cA 8 t_kind), ((am 18), eI cA 8 t_by), ((am 19), eI cA 8 t_pitch), ((am 20), eI cA 4 t_told)] H) (hD : va_D A [((am 0), e_X6 am tkv ttv (upd (upd t 29 (1 : Int32)) 23 (0 : Int32)) t_L), ((am 15), eI cA 250 t_tape), ((am 17), eI cA 8 t_kind), ((am 18), eI cA 8 t_by), ((am 19), eI cA 8 t_pitch), ((am 20), eI cA 4 t_told)]) hS => ?_)
  refine lv_aload_n hx hb dX6_readAll_10 rfl (lv_at hl 0 rfl) ?_
  obtain ⟨o11, ho12, hm⟩ := bd_s hm
  refine xr_v (wr := [((am 17), eI cA 8 t_kind), ((am 18), eI cA 8 t_by), ((am 19), eI cA 8 t_pitch), ((am 20), eI cA 4 t_told)]) (wn := [((am 0), e_X6 am tkv ttv o11 t_L), ((am 15), eI cA 250 t_tape), ((am 17), eI cA 8 t_kind), ((am 18), eI cA 8 t_by), ((am 19), eI cA 8 t_pitch), ((am 20), eI cA 4 t_told)]) (va_runV (As := []) (rest := []) ⟨hx, hb, hml, hown, htg⟩ (c_X6_look l D cA _ fu am tkv ttv (upd (upd t 29 (1 : Int32)) 23 (0 : Int32)) t_L t_tape o11 ho12) (cwV 0 htg (gV q_5_217 q_5_219 q_p6_1 q_1_8 q_5_220) rfl rfl rfl hd_X6_look ⟨Nat.le_of_ble_eq_true rfl, Nat.le_of_ble_eq_true rfl⟩) (xpV hN hK hP hD [0, 1] rfl (by decide) rfl rfl) rfl rfl hl.1 rfl (lv_room (Nat.le_of_ble_eq_true rfl)) dX6_readAll_11 ⟨Nat.zero_le _, Nat.zero_le _⟩) hP hD hS hA [0, 1] [2, 3, 4, 5] [4, 5, 0, 1, 2, 3] rfl rfl (by decide) (by decide) rfl (by decide) (fun H locs hP hD hS => ?_)
  refine lv_aload_n hx hb dX6_readAll_14 rfl (lv_at hl 0 rfl) ?_
  obtain ⟨o13, ho14, hm⟩ := bd_s hm
  refine xr_i (wr := []) (wn := [((am 0), e_X6 am tkv ttv o13.2.1 t_L), ((am 15), eI cA 250 t_tape), ((am 17), eI cA 8 o13.2.2.1), ((am 18), eI cA 8 o13.2.2.2.1), ((am 19), eI cA 8 o13.2.2.2.2.1), ((am 20), eI cA 4 o13.2.2.2.2.2)]) (va_runV (As := []) (rest := []) ⟨hx, hb, hml, hown, htg⟩ (c_X6_statement l D cA K V fv _ fu am tkv ttv o11 t_L t_tape t_kind t_by t_pitch t_told o13 ho14) (cwV 0 htg (gV q_5_227 q_5_229 q_p6_2 q_1_8 q_5_230) rfl rfl rfl hd_X6_statement ⟨Nat.le_of_ble_eq_true rfl, Nat.le_of_ble_eq_true rfl⟩) (xpV1 hSS hS hA hN hK hP hD [0, 1, 2, 3, 4, 5] rfl (by decide) rfl rfl) rfl rfl hl.1 rfl (lv_room (Nat.le_of_ble_eq_true rfl)) dX6_readAll_15 ⟨Nat.zero_le _, Nat.zero_le _⟩) hP hD hS hA [0, 1, 2, 3, 4, 5] [] [0, 1, 2, 3, 4, 5] rfl rfl (by decide) (by decide) rfl (by decide) (fun H locs hP hD hS => ?_)
  refine lv_if_ne (tgt := 23) hx hb dX6_readAll_18 (by decide) (fun c15 => ?_) (fun c15 => ?_)
  · have hm := it_f c15 hm
    exact B_23 fu _ _ _ _ hm hP hD hS (lv_sub hl [0] rfl)
  · have hm := it_t c15 hm
    refine lv_iconst (v := (0 : Int32)) hx hb dX6_readAll_21 (by decide) ?_
    rw [hQ]
    exact W.zret (v := (0 : Int32)) hx hb hr rfl (fun t9 ht hW => ⟨⟨(0 : Int32), (o13.2.1, o13.2.2.1, o13.2.2.2.1, o13.2.2.2.2.1, o13.2.2.2.2.2), rfl, (Option.some.inj hm), by rw [ht]; exact hP, va_K.moved hW.alike hK, hD⟩, hS.F ht⟩) hS.2.2 dX6_readAll_22
