def lenS : List Nat := [5, 5, 5, 5, 4, 3]
def bytS : List (List Int32) := [[118, 111, 105, 99, 101], [112, 105, 116, 99, 104], [119, 101, 105, 103, 104], [100, 101, 112, 116, 104], [114, 97, 105, 110], [100, 97, 121]]
def chS (i k : Nat) : Int32 := ((((bytS.getD i []).getD k 0) &&& 255).toUInt32 % 65536).toInt32
def strR : List (String × Nat × String × Nat) := [("WellIsAskedFirst$Tape", 46, "voice", 0), ("WellIsAskedFirst$Tape", 55, "pitch", 1), ("WellIsAskedFirst$Tape", 60, "weigh", 2), ("WellIsAskedFirst$Tape", 65, "depth", 3), ("WellIsAskedFirst$Tape", 75, "rain", 4), ("WellIsAskedFirst$Tape", 79, "day", 5), ("WellIsAskedFirstModel", 194, "voice", 0), ("WellIsAskedFirstModel", 203, "pitch", 1), ("WellIsAskedFirstModel", 204, "depth", 3), ("WellIsAskedFirstModel", 205, "rain", 4), ("WellIsAskedFirstModel", 206, "day", 5), ("WellIsAskedFirstModel", 207, "weigh", 2)]
def SS (K V : Nat → Nat) (fv : Value) (A : Nat → Prop) (U : State) : Prop :=
  vk_S 6 lenS bytS K V A U U.heap ∧ va_Z "java/lang/String" "COMPACT_STRINGS" "Z" (.int 1) A U U.heap ∧ va_Z "jdk/internal/util/Preconditions" "SIOOBE_FORMATTER" "Ljava/util/function/BiFunction;" fv A U U.heap ∧ (fv = .null ∨ ∃ f, fv = .ref f) ∧ ∀ x ∈ strR, vk_R x.1 x.2.1 x.2.2.1 (K x.2.2.2) U
theorem SS.goes {K V : Nat → Nat} {fv : Value} {A B : Nat → Prop} {s U : State} (hW : s.WarmedH U.vm) (hq : ∀ a : Nat, a < s.heap.size → ¬ A a → U.heap[a]? = s.heap[a]?) (hAB : ∀ q, B q → A q) (h : SS K V fv A s) : SS K V fv B U :=
  ⟨((vk_S.moved hW.alike h.1).kept hq).narrow hAB, ((va_Z.moved hW.alike h.2.1).kept hq).narrow hAB, ((va_Z.moved hW.alike h.2.2.1).kept hq).narrow hAB, h.2.2.2.1, fun x hx => vk_R.warm hW (h.2.2.2.2 x hx)⟩
theorem SS.same {K V : Nat → Nat} {fv : Value} {A : Nat → Prop} {u U : State} (hv : U.vm = u.vm) (hh : U.heap = u.heap) (h : SS K V fv A u) : SS K V fv A U := by
  have hal : u.vm.Alike U.vm := by rw [hv]; exact Vm.Alike.refl _
  refine ⟨?_, ?_, ?_, h.2.2.2.1, fun x hx => vk_R.same hv (h.2.2.2.2 x hx)⟩
  · rw [hh]; exact vk_S.moved hal h.1
  · rw [hh]; exact va_Z.moved hal h.2.1
  · rw [hh]; exact va_Z.moved hal h.2.2.1
abbrev pre1 (D : va_G) (cA : Nat → ClassId) (K V : Nat → Nat) (fv : Value) (sz : Nat) (w : va_W) : State → Prop := fun U => pre0 D cA sz w U ∧ SS K V fv (va_A w sz) U
abbrev MI1 {M : Type} (l : Launch) (y : MethodName) (ws : List Cond) (rm : Room) (D : va_G) (cA : Nat → ClassId) (K V : Nat → Nat) (fv : Value) (sz : Nat) (av : List Value) (w : va_W) (o : Int32 × M) (w1 : M → va_W) : Prop := Met l y ws rm (va_Pc av (pre1 D cA K V fv sz w)) (va_Qi (fun r u => (r, u) = o) (pst0 D cA (va_A w sz) w1) (va_A w sz)) 0 0 (va_A w sz)
abbrev MV1 {M : Type} (l : Launch) (y : MethodName) (ws : List Cond) (rm : Room) (D : va_G) (cA : Nat → ClassId) (K V : Nat → Nat) (fv : Value) (sz : Nat) (av : List Value) (w : va_W) (o : M) (w1 : M → va_W) : Prop := Met l y ws rm (va_Pc av (pre1 D cA K V fv sz w)) (va_Qv (fun u => u = o) (pst0 D cA (va_A w sz) w1) (va_A w sz)) 0 0 (va_A w sz)
abbrev MIC1 {S : Type} (l : Launch) (y : MethodName) (ws : List Cond) (rm : Room) (D : va_G) (cA : Nat → ClassId) (K V : Nat → Nat) (fv : Value) (sz : Nat) (av : List Value) (w : va_W) (post : Int32 → S → Prop) (w1 : S → va_W) (mc ms : Nat) : Prop := Met l y ws rm (va_Pc av (pre1 D cA K V fv sz w)) (va_Qi post (pst0 D cA (va_A w sz) w1) (va_A w sz)) mc ms (va_A w sz)
theorem blind1 {D : va_G} {cA : Nat → ClassId} {K V : Nat → Nat} {fv : Value} {sz : Nat} {w : va_W} {av : List Value} : FrameBlind (va_Pc av (pre1 D cA K V fv sz w)) := fun a U g mk q => by
  obtain ⟨q0, q1, qS⟩ := q
  exact ⟨q0, (blind0 (av := av) (D := D) (cA := cA) (sz := sz) (w := w) a U g mk ⟨q0, q1⟩).2, SS.same (u := U) (U := U.calling g mk a) rfl rfl qS⟩
section XS1
variable {p : Program} {l : Launch} {e : Env} {R : Room} {s : State} {m : MethodId} {args : Array Value} {below : List Frame} {meth : Method} {c : Code} {H : Heap} {locs : List Loc} {cells slots : Nat} {Q : State → Prop}
variable {D : va_G} {cA : Nat → ClassId} {A : Nat → Prop} {ws wc wr wn : va_W} {M : Type} {w1 : M → va_W} {As rest st0 : List Value} {pc : Nat} {ls : Array Slot} {a : Array Value} {K V : Nat → Nat} {fv : Value}
theorem xS_U (hSS : SS K V fv A s) (hD : va_D A ws) (hS : va_S A s.heap H locs) (hA : ∀ q : Nat, s.heap.size ≤ q → A q) (isC : List Nat) (hC : isC.map (fun i => ws[i]?) = wc.map some) {U : State} (hU : U.heap = H) (hW : s.WarmedH U.vm) : SS K V fv (va_A wc H.size) U :=
  hSS.goes hW (fun q h1 h2 => by rw [hU]; exact hS.2.1 q h1 h2) (va_free (wc := wc) hD hS hA isC hC)
theorem xpS1 (hSS : SS K V fv A s) (hS : va_S A s.heap H locs) (hA : ∀ q : Nat, s.heap.size ≤ q → A q) (hN : NW s) (hK : va_K D CL (TY cA) s) (hP : va_P D CL ws H) (hD : va_D A ws) (isC : List Nat) (hC : isC.map (fun i => ws[i]?) = wc.map some) (hn : va_nd isC = true) : PreS s H (va_Pc As (pre1 D cA K V fv H.size wc)) As :=
  ⟨blind1, fun U hU hW => ⟨rfl, ((xpS (As := As) hN hK hP hD isC hC hn).2 U hU hW).2, xS_U hSS hD hS hA isC hC hU hW⟩⟩
theorem xpV1 {b : Nat} {ci N : Nat} {C : String} {T : u_T} {fs : List Value} (hSS : SS K V fv A s) (hS : va_S A s.heap H locs) (hA : ∀ q : Nat, s.heap.size ≤ q → A q) (hN : NW s) (hK : va_K D CL (TY cA) s) (hP : va_P D CL ws H) (hD : va_D A ws) (isC : List Nat) (hC : isC.map (fun i => ws[i]?) = wc.map some) (hnd : va_nd isC = true) (h0 : wc[0]? = some (b, .inr (ci, fs))) (hcl : CL[ci]? = some (C, T, N)) : PreV s H C b (va_Pc (.ref b :: As) (pre1 D cA K V fv H.size wc)) As :=
  ⟨blind1, (xpV (As := As) hN hK hP hD isC hC hnd h0 hcl).2.1, fun U hU hW => ⟨rfl, ((xpV (As := As) hN hK hP hD isC hC hnd h0 hcl).2.2 U hU hW).2, xS_U hSS hD hS hA isC hC hU hW⟩⟩
/-- a String constant is the receiver; the callee's world is empty -/
theorem xpVs {i : Nat} (hi : i < 6) (hSS : SS K V fv A s) (hS : va_S A s.heap H locs) (hA : ∀ q : Nat, s.heap.size ≤ q → A q) (hN : NW s) (hK : va_K D CL (TY cA) s) (hP : va_P D CL ws H) (hD : va_D A ws) : PreV s H "java/lang/String" (K i) (va_Pc (.ref (K i) :: As) (pre1 D cA K V fv H.size [])) As :=
  ⟨blind1, vk_recv hSS.1 hi hS, fun U hU hW => ⟨rfl, ((xpS (As := .ref (K i) :: As) (wc := []) hN hK hP hD [] rfl rfl).2 U hU hW).2, xS_U hSS hD hS hA [] rfl hU hW⟩⟩
end XS1
theorem len_shr : ∀ i, i < 6 → (Int32.ofNat (lenS.getD i 0)) >>> ((0 : Int32) &&& 31) = Int32.ofNat (lenS.getD i 0) := by decide
theorem va_K_nil {D : va_G} {H : Heap} : va_P D CL [] H := fun k q h => by simp at h

abbrev rm_J0_coder_7d493 : Room := ({ frames := 0, cells := 0, slots := 0, locals := 0 } : Room)
theorem hd_J0_coder_7d493 : yJ0_coder_7d493.cls = RJ0 ∧ yJ0_coder_7d493.cls ≠ "java/lang/invoke/MethodHandle" ∧ yJ0_coder_7d493.cls ≠ "java/lang/invoke/VarHandle" ∧ (parseMethodDescriptor yJ0_coder_7d493.desc).map (fun d => d.parameters.length) = some 0 := by decide +kernel
set_option maxHeartbeats 4000000 in
set_option maxRecDepth 100000 in
theorem c_J0_coder_7d493 (l : Launch) (D : va_G) (cA : Nat → ClassId) (K V : Nat → Nat) (fv : Value) (sz : Nat) (i : Nat) (hi : i < 6) : MI1 l yJ0_coder_7d493 (wU yJ0_coder_7d493 cJ0_coder_7d493 1 ((Option.some Jvm.ClassFile.FieldType.byte))) rm_J0_coder_7d493 D cA K V fv sz [.ref (K i)] [] ((0 : Int32), ()) (fun _ : Unit => []) := by
  refine Met.ofW (cc := cJ0_coder_7d493) (maxL := 1) (ret := (Option.some Jvm.ClassFile.FieldType.byte)) (by decide) rfl ?_
  intro p e s m args below meth c s₁ B hml hv
  obtain ⟨hargs, ⟨hsz, hP, hK, hD0, hN⟩, hSS⟩ := hv
  have hx := B.exec
  have hb := B.bytes
  have hr := B.returns
  have htg : ∀ w ∈ gw, w.before args s = true := fun w h => atoms_spec (ws := wU yJ0_coder_7d493 cJ0_coder_7d493 1 ((Option.some Jvm.ClassFile.FieldType.byte))) B.pre w (List.mem_cons_of_mem _ h)
  have hown : s.vm.findClass RJ0 = some m.cls := findClass_of_methodNamed B.named
  have hlocks := B.notSynchronized
  subst hsz
  have hD := hD0.self (sz := s.heap.size)
  have hA : ∀ q : Nat, s.heap.size ≤ q → va_A ([]) s.heap.size q := fun q h => Or.inr h
  have hS : va_S (va_A ([]) s.heap.size) s.heap s.heap [] := va_S.rf
  generalize va_A ([]) s.heap.size = A at hA hD hS hSS ⊢
  obtain ⟨Q, hQ⟩ : ∃ Q : State → Prop, Q = MQ below (va_Qi (fun (r : Int32) (u : Unit) => (r, u) = ((0 : Int32), ())) (pst0 D cA A (fun _ : Unit => [])) A) args s 0 0 A := ⟨_, rfl⟩
  refine (?_ : W p l e rm_J0_coder_7d493 s m args below meth c s.heap [] 0 0 (MQ below (va_Qi (fun (r : Int32) (u : Unit) => (r, u) = ((0 : Int32), ())) (pst0 D cA A (fun _ : Unit => [])) A) args s 0 0 A) (entryFrame m args 1))
  rw [← hQ]
  subst hargs
  have hl := lv_entry ([.ref (K i)]) (n := 1) (Nat.le_of_ble_eq_true rfl)
  rw [lg_entry_eq]
  generalize (lg_sl ([.ref (K i)]) ++ List.replicate (1 - (lg_sl ([.ref (K i)])).length) Slot.unset).toArray = ls at hl ⊢
  have hl : lv_has ls 1 [(0, .ref (K i))] := hl
  refine va_gets hx hb hSS.2.1 hS hown (htg _ q_3_8) (fun _ h9 => h9) dJ0_coder_7d493_0 ?_
  refine lv_if_eq (tgt := 13) hx hb dJ0_coder_7d493_3 (by decide) (fun c1 => absurd c1 (by decide)) (fun _ => ?_)
  refine lv_aload_n hx hb dJ0_coder_7d493_6 rfl (lv_at hl 0 rfl) ?_
  refine vk_getf hx hb (hSS.1.1 i hi).2.1 hS hown (htg _ q_7_29) (fun _ h9 => h9) dJ0_coder_7d493_7 ?_
  refine lv_goto (tgt := 14) hx hb dJ0_coder_7d493_10 (by decide) ?_
  rw [hQ]
  exact W.zret (v := (0 : Int32)) hx hb hr rfl (fun t9 ht hW => ⟨⟨(0 : Int32), (), rfl, rfl, by rw [ht]; exact hP, va_K.moved hW.alike hK, hD⟩, hS.F ht⟩) hS.2.2 dJ0_coder_7d493_14

abbrev rm_J0_isLatin1_aae02 : Room := ({ frames := 0, cells := 0, slots := 0, locals := 0 } : Room)
theorem hd_J0_isLatin1_aae02 : yJ0_isLatin1_aae02.cls = RJ0 ∧ yJ0_isLatin1_aae02.cls ≠ "java/lang/invoke/MethodHandle" ∧ yJ0_isLatin1_aae02.cls ≠ "java/lang/invoke/VarHandle" ∧ (parseMethodDescriptor yJ0_isLatin1_aae02.desc).map (fun d => d.parameters.length) = some 0 := by decide +kernel
set_option maxHeartbeats 4000000 in
set_option maxRecDepth 100000 in
theorem c_J0_isLatin1_aae02 (l : Launch) (D : va_G) (cA : Nat → ClassId) (K V : Nat → Nat) (fv : Value) (sz : Nat) (i : Nat) (hi : i < 6) : MI1 l yJ0_isLatin1_aae02 (wU yJ0_isLatin1_aae02 cJ0_isLatin1_aae02 1 ((Option.some Jvm.ClassFile.FieldType.boolean))) rm_J0_isLatin1_aae02 D cA K V fv sz [.ref (K i)] [] ((1 : Int32), ()) (fun _ : Unit => []) := by
  refine Met.ofW (cc := cJ0_isLatin1_aae02) (maxL := 1) (ret := (Option.some Jvm.ClassFile.FieldType.boolean)) (by decide) rfl ?_
  intro p e s m args below meth c s₁ B hml hv
  obtain ⟨hargs, ⟨hsz, hP, hK, hD0, hN⟩, hSS⟩ := hv
  have hx := B.exec
  have hb := B.bytes
  have hr := B.returns
  have htg : ∀ w ∈ gw, w.before args s = true := fun w h => atoms_spec (ws := wU yJ0_isLatin1_aae02 cJ0_isLatin1_aae02 1 ((Option.some Jvm.ClassFile.FieldType.boolean))) B.pre w (List.mem_cons_of_mem _ h)
  have hown : s.vm.findClass RJ0 = some m.cls := findClass_of_methodNamed B.named
  have hlocks := B.notSynchronized
  subst hsz
  have hD := hD0.self (sz := s.heap.size)
  have hA : ∀ q : Nat, s.heap.size ≤ q → va_A ([]) s.heap.size q := fun q h => Or.inr h
  have hS : va_S (va_A ([]) s.heap.size) s.heap s.heap [] := va_S.rf
  generalize va_A ([]) s.heap.size = A at hA hD hS hSS ⊢
  obtain ⟨Q, hQ⟩ : ∃ Q : State → Prop, Q = MQ below (va_Qi (fun (r : Int32) (u : Unit) => (r, u) = ((1 : Int32), ())) (pst0 D cA A (fun _ : Unit => [])) A) args s 0 0 A := ⟨_, rfl⟩
  refine (?_ : W p l e rm_J0_isLatin1_aae02 s m args below meth c s.heap [] 0 0 (MQ below (va_Qi (fun (r : Int32) (u : Unit) => (r, u) = ((1 : Int32), ())) (pst0 D cA A (fun _ : Unit => [])) A) args s 0 0 A) (entryFrame m args 1))
  rw [← hQ]
  subst hargs
  have hl := lv_entry ([.ref (K i)]) (n := 1) (Nat.le_of_ble_eq_true rfl)
  rw [lg_entry_eq]
  generalize (lg_sl ([.ref (K i)]) ++ List.replicate (1 - (lg_sl ([.ref (K i)])).length) Slot.unset).toArray = ls at hl ⊢
  have hl : lv_has ls 1 [(0, .ref (K i))] := hl
  refine va_gets hx hb hSS.2.1 hS hown (htg _ q_3_8) (fun _ h9 => h9) dJ0_isLatin1_aae02_0 ?_
  refine lv_if_eq (tgt := 17) hx hb dJ0_isLatin1_aae02_3 (by decide) (fun c1 => absurd c1 (by decide)) (fun _ => ?_)
  refine lv_aload_n hx hb dJ0_isLatin1_aae02_6 rfl (lv_at hl 0 rfl) ?_
  refine vk_getf hx hb (hSS.1.1 i hi).2.1 hS hown (htg _ q_7_29) (fun _ h9 => h9) dJ0_isLatin1_aae02_7 ?_
  refine lv_if_ne (tgt := 17) hx hb dJ0_isLatin1_aae02_10 (by decide) (fun c1 => absurd rfl c1) (fun _ => ?_)
  refine lv_iconst (v := (1 : Int32)) hx hb dJ0_isLatin1_aae02_13 (by decide) ?_
  refine lv_goto (tgt := 18) hx hb dJ0_isLatin1_aae02_14 (by decide) ?_
  rw [hQ]
  exact W.zret (v := (1 : Int32)) hx hb hr rfl (fun t9 ht hW => ⟨⟨(1 : Int32), (), rfl, rfl, by rw [ht]; exact hP, va_K.moved hW.alike hK, hD⟩, hS.F ht⟩) hS.2.2 dJ0_isLatin1_aae02_18

abbrev rm_J0_length_8abf5 : Room := ({ frames := 1, cells := 0, slots := 0, locals := 20 } : Room)
theorem hd_J0_length_8abf5 : yJ0_length_8abf5.cls = RJ0 ∧ yJ0_length_8abf5.cls ≠ "java/lang/invoke/MethodHandle" ∧ yJ0_length_8abf5.cls ≠ "java/lang/invoke/VarHandle" ∧ (parseMethodDescriptor yJ0_length_8abf5.desc).map (fun d => d.parameters.length) = some 0 := by decide +kernel
set_option maxHeartbeats 4000000 in
set_option maxRecDepth 100000 in
theorem c_J0_length_8abf5 (l : Launch) (D : va_G) (cA : Nat → ClassId) (K V : Nat → Nat) (fv : Value) (sz : Nat) (i : Nat) (hi : i < 6) : MI1 l yJ0_length_8abf5 (wU yJ0_length_8abf5 cJ0_length_8abf5 1 ((Option.some Jvm.ClassFile.FieldType.int))) rm_J0_length_8abf5 D cA K V fv sz [.ref (K i)] [] (Int32.ofNat (lenS.getD i 0), ()) (fun _ : Unit => []) := by
  refine Met.ofW (cc := cJ0_length_8abf5) (maxL := 1) (ret := (Option.some Jvm.ClassFile.FieldType.int)) (by decide) rfl ?_
  intro p e s m args below meth c s₁ B hml hv
  obtain ⟨hargs, ⟨hsz, hP, hK, hD0, hN⟩, hSS⟩ := hv
  have hx := B.exec
  have hb := B.bytes
  have hr := B.returns
  have htg : ∀ w ∈ gw, w.before args s = true := fun w h => atoms_spec (ws := wU yJ0_length_8abf5 cJ0_length_8abf5 1 ((Option.some Jvm.ClassFile.FieldType.int))) B.pre w (List.mem_cons_of_mem _ h)
  have hown : s.vm.findClass RJ0 = some m.cls := findClass_of_methodNamed B.named
  have hlocks := B.notSynchronized
  subst hsz
  have hD := hD0.self (sz := s.heap.size)
  have hA : ∀ q : Nat, s.heap.size ≤ q → va_A ([]) s.heap.size q := fun q h => Or.inr h
  have hS : va_S (va_A ([]) s.heap.size) s.heap s.heap [] := va_S.rf
  generalize va_A ([]) s.heap.size = A at hA hD hS hSS ⊢
  obtain ⟨Q, hQ⟩ : ∃ Q : State → Prop, Q = MQ below (va_Qi (fun (r : Int32) (u : Unit) => (r, u) = (Int32.ofNat (lenS.getD i 0), ())) (pst0 D cA A (fun _ : Unit => [])) A) args s 0 0 A := ⟨_, rfl⟩
  refine (?_ : W p l e rm_J0_length_8abf5 s m args below meth c s.heap [] 0 0 (MQ below (va_Qi (fun (r : Int32) (u : Unit) => (r, u) = (Int32.ofNat (lenS.getD i 0), ())) (pst0 D cA A (fun _ : Unit => [])) A) args s 0 0 A) (entryFrame m args 1))
  rw [← hQ]
  subst hargs
  have hl := lv_entry ([.ref (K i)]) (n := 1) (Nat.le_of_ble_eq_true rfl)
  rw [lg_entry_eq]
  generalize (lg_sl ([.ref (K i)]) ++ List.replicate (1 - (lg_sl ([.ref (K i)])).length) Slot.unset).toArray = ls at hl ⊢
  have hl : lv_has ls 1 [(0, .ref (K i))] := hl
  refine lv_aload_n hx hb dJ0_length_8abf5_0 rfl (lv_at hl 0 rfl) ?_
  refine vk_getf hx hb (hSS.1.1 i hi).2.2.1 hS hown (htg _ q_7_28) (fun _ h9 => h9) dJ0_length_8abf5_1 ?_
  refine va_tlen hx hb (hSS.1.1 i hi).2.2.2 hS rfl dJ0_length_8abf5_4 ?_
  refine lv_aload_n hx hb dJ0_length_8abf5_5 rfl (lv_at hl 0 rfl) ?_
  refine xr_i (wr := []) (wn := []) (va_runV (As := []) (rest := [.int (Int32.ofNat (lenS.getD i 0))]) ⟨hx, hb, hml, hown, htg⟩ (c_J0_coder_7d493 l D cA K V fv _ i hi) (cwV 0 htg (gV q_3_4 q_3_5 q_3_6 q_1_10 q_3_7) rfl rfl rfl hd_J0_coder_7d493 ⟨Nat.le_of_ble_eq_true rfl, Nat.le_of_ble_eq_true rfl⟩) (xpVs hi hSS hS hA hN hK hP hD) rfl rfl hl.1 rfl (lv_room (Nat.le_of_ble_eq_true rfl)) dJ0_length_8abf5_6 ⟨Nat.zero_le _, Nat.zero_le _⟩) hP hD hS hA [] [] [] rfl rfl (by decide) (by decide) rfl (by decide) (fun H locs hP hD hS => ?_)
  refine lv_ishr hx hb dJ0_length_8abf5_9 ?_
  rw [show Int32.ofNat (lenS.getD i 0) >>> ((((0 : Int32), ()) : Int32 × Unit).1 &&& 31) = Int32.ofNat (lenS.getD i 0) from len_shr i hi]
  rw [hQ]
  exact W.iret (v := Int32.ofNat (lenS.getD i 0)) hx hb hr (fun t9 ht hW => ⟨⟨Int32.ofNat (lenS.getD i 0), (), rfl, rfl, by rw [ht]; exact hP, va_K.moved hW.alike hK, hD⟩, hS.F ht⟩) hS.2.2 dJ0_length_8abf5_10

abbrev rm_J3_checkIndex_8e157 : Room := ({ frames := 0, cells := 0, slots := 0, locals := 0 } : Room)
theorem hd_J3_checkIndex_8e157 : yJ3_checkIndex_8e157.cls = RJ3 ∧ yJ3_checkIndex_8e157.cls ≠ "java/lang/invoke/MethodHandle" ∧ yJ3_checkIndex_8e157.cls ≠ "java/lang/invoke/VarHandle" ∧ (parseMethodDescriptor yJ3_checkIndex_8e157.desc).map (fun d => d.parameters.length) = some 3 := by decide +kernel
set_option maxHeartbeats 4000000 in
set_option maxRecDepth 100000 in
theorem cn_J3_checkIndex_8e157 (l : Launch) (D : va_G) (cA : Nat → ClassId) (K V : Nat → Nat) (fv : Value) (sz : Nat) (k n : Int32) (h1 : ¬ k < 0) (h2 : k < n) : MI1 l yJ3_checkIndex_8e157 (wU yJ3_checkIndex_8e157 cJ3_checkIndex_8e157 3 ((Option.some Jvm.ClassFile.FieldType.int))) rm_J3_checkIndex_8e157 D cA K V fv sz [.int k, .int n, .null] [] (k, ()) (fun _ : Unit => []) := by
  refine Met.ofW (cc := cJ3_checkIndex_8e157) (maxL := 3) (ret := (Option.some Jvm.ClassFile.FieldType.int)) (by decide) rfl ?_
  intro p e s m args below meth c s₁ B hml hv
  obtain ⟨hargs, ⟨hsz, hP, hK, hD0, hN⟩, hSS⟩ := hv
  have hx := B.exec
  have hb := B.bytes
  have hr := B.returns
  have htg : ∀ w ∈ gw, w.before args s = true := fun w h => atoms_spec (ws := wU yJ3_checkIndex_8e157 cJ3_checkIndex_8e157 3 ((Option.some Jvm.ClassFile.FieldType.int))) B.pre w (List.mem_cons_of_mem _ h)
  have hown : s.vm.findClass RJ3 = some m.cls := findClass_of_methodNamed B.named
  have hlocks := B.notSynchronized
  subst hsz
  have hD := hD0.self (sz := s.heap.size)
  have hA : ∀ q : Nat, s.heap.size ≤ q → va_A ([]) s.heap.size q := fun q h => Or.inr h
  have hS : va_S (va_A ([]) s.heap.size) s.heap s.heap [] := va_S.rf
  generalize va_A ([]) s.heap.size = A at hA hD hS hSS ⊢
  obtain ⟨Q, hQ⟩ : ∃ Q : State → Prop, Q = MQ below (va_Qi (fun (r : Int32) (u : Unit) => (r, u) = (k, ())) (pst0 D cA A (fun _ : Unit => [])) A) args s 0 0 A := ⟨_, rfl⟩
  refine (?_ : W p l e rm_J3_checkIndex_8e157 s m args below meth c s.heap [] 0 0 (MQ below (va_Qi (fun (r : Int32) (u : Unit) => (r, u) = (k, ())) (pst0 D cA A (fun _ : Unit => [])) A) args s 0 0 A) (entryFrame m args 3))
  rw [← hQ]
  subst hargs
  have hl := lv_entry ([.int k, .int n, .null]) (n := 3) (Nat.le_of_ble_eq_true rfl)
  rw [lg_entry_eq]
  generalize (lg_sl ([.int k, .int n, .null]) ++ List.replicate (3 - (lg_sl ([.int k, .int n, .null])).length) Slot.unset).toArray = ls at hl ⊢
  have hl : lv_has ls 3 [(0, .int k), (1, .int n), (2, .null)] := hl
  refine lv_iload_n hx hb dJ3_checkIndex_8e157_0 rfl (lv_at hl 0 rfl) ?_
  refine lv_if_lt (tgt := 9) hx hb dJ3_checkIndex_8e157_1 (by decide) (fun c1 => absurd c1 h1) (fun _ => ?_)
  refine lv_iload_n hx hb dJ3_checkIndex_8e157_4 rfl (lv_at hl 0 rfl) ?_
  refine lv_iload_n hx hb dJ3_checkIndex_8e157_5 rfl (lv_at hl 1 rfl) ?_
  refine lv_icmp_lt (tgt := 16) hx hb dJ3_checkIndex_8e157_6 (by decide) (fun _ => ?_) (fun c1 => absurd h2 c1)
  refine lv_iload_n hx hb dJ3_checkIndex_8e157_16 rfl (lv_at hl 0 rfl) ?_
  rw [hQ]
  exact W.iret (v := k) hx hb hr (fun t9 ht hW => ⟨⟨k, (), rfl, rfl, by rw [ht]; exact hP, va_K.moved hW.alike hK, hD⟩, hS.F ht⟩) hS.2.2 dJ3_checkIndex_8e157_17

set_option maxHeartbeats 4000000 in
set_option maxRecDepth 100000 in
theorem cr_J3_checkIndex_8e157 (l : Launch) (D : va_G) (cA : Nat → ClassId) (K V : Nat → Nat) (fv : Value) (sz : Nat) (k n : Int32) (h1 : ¬ k < 0) (h2 : k < n) (f : Nat) : MI1 l yJ3_checkIndex_8e157 (wU yJ3_checkIndex_8e157 cJ3_checkIndex_8e157 3 ((Option.some Jvm.ClassFile.FieldType.int))) rm_J3_checkIndex_8e157 D cA K V fv sz [.int k, .int n, .ref f] [] (k, ()) (fun _ : Unit => []) := by
  refine Met.ofW (cc := cJ3_checkIndex_8e157) (maxL := 3) (ret := (Option.some Jvm.ClassFile.FieldType.int)) (by decide) rfl ?_
  intro p e s m args below meth c s₁ B hml hv
  obtain ⟨hargs, ⟨hsz, hP, hK, hD0, hN⟩, hSS⟩ := hv
  have hx := B.exec
  have hb := B.bytes
  have hr := B.returns
  have htg : ∀ w ∈ gw, w.before args s = true := fun w h => atoms_spec (ws := wU yJ3_checkIndex_8e157 cJ3_checkIndex_8e157 3 ((Option.some Jvm.ClassFile.FieldType.int))) B.pre w (List.mem_cons_of_mem _ h)
  have hown : s.vm.findClass RJ3 = some m.cls := findClass_of_methodNamed B.named
  have hlocks := B.notSynchronized
  subst hsz
  have hD := hD0.self (sz := s.heap.size)
  have hA : ∀ q : Nat, s.heap.size ≤ q → va_A ([]) s.heap.size q := fun q h => Or.inr h
  have hS : va_S (va_A ([]) s.heap.size) s.heap s.heap [] := va_S.rf
  generalize va_A ([]) s.heap.size = A at hA hD hS hSS ⊢
  obtain ⟨Q, hQ⟩ : ∃ Q : State → Prop, Q = MQ below (va_Qi (fun (r : Int32) (u : Unit) => (r, u) = (k, ())) (pst0 D cA A (fun _ : Unit => [])) A) args s 0 0 A := ⟨_, rfl⟩
  refine (?_ : W p l e rm_J3_checkIndex_8e157 s m args below meth c s.heap [] 0 0 (MQ below (va_Qi (fun (r : Int32) (u : Unit) => (r, u) = (k, ())) (pst0 D cA A (fun _ : Unit => [])) A) args s 0 0 A) (entryFrame m args 3))
  rw [← hQ]
  subst hargs
  have hl := lv_entry ([.int k, .int n, .ref f]) (n := 3) (Nat.le_of_ble_eq_true rfl)
  rw [lg_entry_eq]
  generalize (lg_sl ([.int k, .int n, .ref f]) ++ List.replicate (3 - (lg_sl ([.int k, .int n, .ref f])).length) Slot.unset).toArray = ls at hl ⊢
  have hl : lv_has ls 3 [(0, .int k), (1, .int n), (2, .ref f)] := hl
  refine lv_iload_n hx hb dJ3_checkIndex_8e157_0 rfl (lv_at hl 0 rfl) ?_
  refine lv_if_lt (tgt := 9) hx hb dJ3_checkIndex_8e157_1 (by decide) (fun c1 => absurd c1 h1) (fun _ => ?_)
  refine lv_iload_n hx hb dJ3_checkIndex_8e157_4 rfl (lv_at hl 0 rfl) ?_
  refine lv_iload_n hx hb dJ3_checkIndex_8e157_5 rfl (lv_at hl 1 rfl) ?_
  refine lv_icmp_lt (tgt := 16) hx hb dJ3_checkIndex_8e157_6 (by decide) (fun _ => ?_) (fun c1 => absurd h2 c1)
  refine lv_iload_n hx hb dJ3_checkIndex_8e157_16 rfl (lv_at hl 0 rfl) ?_
  rw [hQ]
  exact W.iret (v := k) hx hb hr (fun t9 ht hW => ⟨⟨k, (), rfl, rfl, by rw [ht]; exact hP, va_K.moved hW.alike hK, hD⟩, hS.F ht⟩) hS.2.2 dJ3_checkIndex_8e157_17

abbrev rm_J0_checkIndex_df160 : Room := ({ frames := 1, cells := 0, slots := 0, locals := 22 } : Room)
theorem hd_J0_checkIndex_df160 : yJ0_checkIndex_df160.cls = RJ0 ∧ yJ0_checkIndex_df160.cls ≠ "java/lang/invoke/MethodHandle" ∧ yJ0_checkIndex_df160.cls ≠ "java/lang/invoke/VarHandle" ∧ (parseMethodDescriptor yJ0_checkIndex_df160.desc).map (fun d => d.parameters.length) = some 2 := by decide +kernel
set_option maxHeartbeats 4000000 in
set_option maxRecDepth 100000 in
theorem c_J0_checkIndex_df160 (l : Launch) (D : va_G) (cA : Nat → ClassId) (K V : Nat → Nat) (fv : Value) (sz : Nat) (k n : Int32) (h1 : ¬ k < 0) (h2 : k < n) : MV1 l yJ0_checkIndex_df160 (wU yJ0_checkIndex_df160 cJ0_checkIndex_df160 2 ((Option.none : Option Jvm.ClassFile.FieldType))) rm_J0_checkIndex_df160 D cA K V fv sz [.int k, .int n] [] () (fun _ : Unit => []) := by
  refine Met.ofW (cc := cJ0_checkIndex_df160) (maxL := 2) (ret := (Option.none : Option Jvm.ClassFile.FieldType)) (by decide) rfl ?_
  intro p e s m args below meth c s₁ B hml hv
  obtain ⟨hargs, ⟨hsz, hP, hK, hD0, hN⟩, hSS⟩ := hv
  have hx := B.exec
  have hb := B.bytes
  have hr := B.returns
  have htg : ∀ w ∈ gw, w.before args s = true := fun w h => atoms_spec (ws := wU yJ0_checkIndex_df160 cJ0_checkIndex_df160 2 ((Option.none : Option Jvm.ClassFile.FieldType))) B.pre w (List.mem_cons_of_mem _ h)
  have hown : s.vm.findClass RJ0 = some m.cls := findClass_of_methodNamed B.named
  have hlocks := B.notSynchronized
  subst hsz
  have hD := hD0.self (sz := s.heap.size)
  have hA : ∀ q : Nat, s.heap.size ≤ q → va_A ([]) s.heap.size q := fun q h => Or.inr h
  have hS : va_S (va_A ([]) s.heap.size) s.heap s.heap [] := va_S.rf
  generalize va_A ([]) s.heap.size = A at hA hD hS hSS ⊢
  obtain ⟨Q, hQ⟩ : ∃ Q : State → Prop, Q = MQ below (va_Qv (fun (u : Unit) => u = ()) (pst0 D cA A (fun _ : Unit => [])) A) args s 0 0 A := ⟨_, rfl⟩
  refine (?_ : W p l e rm_J0_checkIndex_df160 s m args below meth c s.heap [] 0 0 (MQ below (va_Qv (fun (u : Unit) => u = ()) (pst0 D cA A (fun _ : Unit => [])) A) args s 0 0 A) (entryFrame m args 2))
  rw [← hQ]
  subst hargs
  have hl := lv_entry ([.int k, .int n]) (n := 2) (Nat.le_of_ble_eq_true rfl)
  rw [lg_entry_eq]
  generalize (lg_sl ([.int k, .int n]) ++ List.replicate (2 - (lg_sl ([.int k, .int n])).length) Slot.unset).toArray = ls at hl ⊢
  have hl : lv_has ls 2 [(0, .int k), (1, .int n)] := hl
  refine lv_iload_n hx hb dJ0_checkIndex_df160_0 rfl (lv_at hl 0 rfl) ?_
  refine lv_iload_n hx hb dJ0_checkIndex_df160_1 rfl (lv_at hl 1 rfl) ?_
  refine va_gets hx hb hSS.2.2.1 hS hown (htg _ q_3_24) (fun _ h9 => h9) dJ0_checkIndex_df160_2 ?_
  rcases hSS.2.2.2.1 with rfl | ⟨f, rfl⟩
  · refine xr_i (wr := []) (wn := []) (va_runS (As := [.int k, .int n, .null]) (rest := []) ⟨hx, hb, hml, hown, htg⟩ (cn_J3_checkIndex_8e157 l D cA K V _ _ k n h1 h2) ⟨callB_of 3 htg (gU q_3_28) rfl rfl rfl (htg _ q_1_12) (htg _ q_3_26) hd_J3_checkIndex_8e157.2 ⟨Nat.le_of_ble_eq_true rfl, Nat.le_of_ble_eq_true rfl⟩, htg _ q_3_27⟩ (xpS1 hSS hS hA hN hK hP hD [] rfl rfl) rfl rfl hl.1 rfl (lv_room (Nat.le_of_ble_eq_true rfl)) dJ0_checkIndex_df160_5 ⟨Nat.zero_le _, Nat.zero_le _⟩) hP hD hS hA [] [] [] rfl rfl (by decide) (by decide) rfl (by decide) (fun H locs hP hD hS => ?_)
    refine lv_pop hx hb dJ0_checkIndex_df160_8 rfl ?_
    rw [hQ]
    exact W.vret hx hb hr (fun t9 ht hW => ⟨⟨(), rfl, rfl, by rw [ht]; exact hP, va_K.moved hW.alike hK, hD⟩, hS.F ht⟩) hS.2.2 dJ0_checkIndex_df160_9
  · refine xr_i (wr := []) (wn := []) (va_runS (As := [.int k, .int n, .ref f]) (rest := []) ⟨hx, hb, hml, hown, htg⟩ (cr_J3_checkIndex_8e157 l D cA K V _ _ k n h1 h2 f) ⟨callB_of 3 htg (gU q_3_28) rfl rfl rfl (htg _ q_1_12) (htg _ q_3_26) hd_J3_checkIndex_8e157.2 ⟨Nat.le_of_ble_eq_true rfl, Nat.le_of_ble_eq_true rfl⟩, htg _ q_3_27⟩ (xpS1 hSS hS hA hN hK hP hD [] rfl rfl) rfl rfl hl.1 rfl (lv_room (Nat.le_of_ble_eq_true rfl)) dJ0_checkIndex_df160_5 ⟨Nat.zero_le _, Nat.zero_le _⟩) hP hD hS hA [] [] [] rfl rfl (by decide) (by decide) rfl (by decide) (fun H locs hP hD hS => ?_)
    refine lv_pop hx hb dJ0_checkIndex_df160_8 rfl ?_
    rw [hQ]
    exact W.vret hx hb hr (fun t9 ht hW => ⟨⟨(), rfl, rfl, by rw [ht]; exact hP, va_K.moved hW.alike hK, hD⟩, hS.F ht⟩) hS.2.2 dJ0_checkIndex_df160_9

theorem len_lt {i : Nat} {k : Int32} (hi : i < 6) (h : inb k (lenS.getD i 0)) : k < Int32.ofNat (lenS.getD i 0) := by
  obtain ⟨j, hj, rfl⟩ := vp_in_of (x := k) (n := lenS.getD i 0) h (by rcases (show i = 0 ∨ i = 1 ∨ i = 2 ∨ i = 3 ∨ i = 4 ∨ i = 5 by omega) with rfl | rfl | rfl | rfl | rfl | rfl <;> decide)
  exact nI_lt hj (by rcases (show i = 0 ∨ i = 1 ∨ i = 2 ∨ i = 3 ∨ i = 4 ∨ i = 5 by omega) with rfl | rfl | rfl | rfl | rfl | rfl <;> decide)

abbrev rm_J1_charAt_3b067 : Room := ({ frames := 2, cells := 0, slots := 0, locals := 43 } : Room)
theorem hd_J1_charAt_3b067 : yJ1_charAt_3b067.cls = RJ1 ∧ yJ1_charAt_3b067.cls ≠ "java/lang/invoke/MethodHandle" ∧ yJ1_charAt_3b067.cls ≠ "java/lang/invoke/VarHandle" ∧ (parseMethodDescriptor yJ1_charAt_3b067.desc).map (fun d => d.parameters.length) = some 2 := by decide +kernel
set_option maxHeartbeats 4000000 in
set_option maxRecDepth 100000 in
theorem c_J1_charAt_3b067 (l : Launch) (D : va_G) (cA : Nat → ClassId) (K V : Nat → Nat) (fv : Value) (sz : Nat) (i : Nat) (hi : i < 6) (k : Int32) (h1 : inb k (lenS.getD i 0)) : MI1 l yJ1_charAt_3b067 (wU yJ1_charAt_3b067 cJ1_charAt_3b067 2 ((Option.some Jvm.ClassFile.FieldType.char))) rm_J1_charAt_3b067 D cA K V fv sz [.ref (V i), .int k] [] (chS i k.toNatClampNeg, ()) (fun _ : Unit => []) := by
  refine Met.ofW (cc := cJ1_charAt_3b067) (maxL := 2) (ret := (Option.some Jvm.ClassFile.FieldType.char)) (by decide) rfl ?_
  intro p e s m args below meth c s₁ B hml hv
  obtain ⟨hargs, ⟨hsz, hP, hK, hD0, hN⟩, hSS⟩ := hv
  have hx := B.exec
  have hb := B.bytes
  have hr := B.returns
  have htg : ∀ w ∈ gw, w.before args s = true := fun w h => atoms_spec (ws := wU yJ1_charAt_3b067 cJ1_charAt_3b067 2 ((Option.some Jvm.ClassFile.FieldType.char))) B.pre w (List.mem_cons_of_mem _ h)
  have hown : s.vm.findClass RJ1 = some m.cls := findClass_of_methodNamed B.named
  have hlocks := B.notSynchronized
  subst hsz
  have hD := hD0.self (sz := s.heap.size)
  have hA : ∀ q : Nat, s.heap.size ≤ q → va_A ([]) s.heap.size q := fun q h => Or.inr h
  have hS : va_S (va_A ([]) s.heap.size) s.heap s.heap [] := va_S.rf
  generalize va_A ([]) s.heap.size = A at hA hD hS hSS ⊢
  obtain ⟨Q, hQ⟩ : ∃ Q : State → Prop, Q = MQ below (va_Qi (fun (r : Int32) (u : Unit) => (r, u) = (chS i k.toNatClampNeg, ())) (pst0 D cA A (fun _ : Unit => [])) A) args s 0 0 A := ⟨_, rfl⟩
  refine (?_ : W p l e rm_J1_charAt_3b067 s m args below meth c s.heap [] 0 0 (MQ below (va_Qi (fun (r : Int32) (u : Unit) => (r, u) = (chS i k.toNatClampNeg, ())) (pst0 D cA A (fun _ : Unit => [])) A) args s 0 0 A) (entryFrame m args 2))
  rw [← hQ]
  subst hargs
  have hl := lv_entry ([.ref (V i), .int k]) (n := 2) (Nat.le_of_ble_eq_true rfl)
  rw [lg_entry_eq]
  generalize (lg_sl ([.ref (V i), .int k]) ++ List.replicate (2 - (lg_sl ([.ref (V i), .int k])).length) Slot.unset).toArray = ls at hl ⊢
  have hl : lv_has ls 2 [(0, .ref (V i)), (1, .int k)] := hl
  refine lv_iload_n hx hb dJ1_charAt_3b067_0 rfl (lv_at hl 1 rfl) ?_
  refine lv_aload_n hx hb dJ1_charAt_3b067_1 rfl (lv_at hl 0 rfl) ?_
  refine va_tlen hx hb (hSS.1.1 i hi).2.2.2 hS rfl dJ1_charAt_3b067_2 ?_
  refine xr_v (wr := []) (wn := []) (va_runS (As := [.int k, .int (Int32.ofNat (lenS.getD i 0))]) (rest := []) ⟨hx, hb, hml, hown, htg⟩ (c_J0_checkIndex_df160 l D cA K V fv _ k _ (fun h => h1 (Or.inl h)) (len_lt hi h1)) ⟨callB_of 2 htg (gU q_3_23) rfl rfl rfl (htg _ q_1_10) (htg _ q_3_21) hd_J0_checkIndex_df160.2 ⟨Nat.le_of_ble_eq_true rfl, Nat.le_of_ble_eq_true rfl⟩, htg _ q_3_22⟩ (xpS1 hSS hS hA hN hK hP hD [] rfl rfl) rfl rfl hl.1 rfl (lv_room (Nat.le_of_ble_eq_true rfl)) dJ1_charAt_3b067_3 ⟨Nat.zero_le _, Nat.zero_le _⟩) hP hD hS hA [] [] [] rfl rfl (by decide) (by decide) rfl (by decide) (fun H locs hP hD hS => ?_)
  refine lv_aload_n hx hb dJ1_charAt_3b067_6 rfl (lv_at hl 0 rfl) ?_
  refine lv_iload_n hx hb dJ1_charAt_3b067_7 rfl (lv_at hl 1 rfl) ?_
  refine va_tb hx hb (hSS.1.1 i hi).2.2.2 hS h1 (v := .int ((bytS.getD i []).getD k.toNatClampNeg 0)) rfl dJ1_charAt_3b067_8 ?_
  refine lv_sipush (v := (255 : Int32)) hx hb dJ1_charAt_3b067_9 (by decide) ?_
  refine lv_iand hx hb dJ1_charAt_3b067_12 ?_
  refine lv_i2c hx hb dJ1_charAt_3b067_13 rfl ?_
  rw [hQ]
  exact W.zret (v := chS i k.toNatClampNeg) hx hb hr (pk_nc _) (fun t9 ht hW => ⟨⟨chS i k.toNatClampNeg, (), rfl, rfl, by rw [ht]; exact hP, va_K.moved hW.alike hK, hD⟩, hS.F ht⟩) hS.2.2 dJ1_charAt_3b067_14

abbrev rm_J0_charAt_5068e : Room := ({ frames := 3, cells := 0, slots := 0, locals := 64 } : Room)
theorem hd_J0_charAt_5068e : yJ0_charAt_5068e.cls = RJ0 ∧ yJ0_charAt_5068e.cls ≠ "java/lang/invoke/MethodHandle" ∧ yJ0_charAt_5068e.cls ≠ "java/lang/invoke/VarHandle" ∧ (parseMethodDescriptor yJ0_charAt_5068e.desc).map (fun d => d.parameters.length) = some 1 := by decide +kernel
set_option maxHeartbeats 4000000 in
set_option maxRecDepth 100000 in
theorem c_J0_charAt_5068e (l : Launch) (D : va_G) (cA : Nat → ClassId) (K V : Nat → Nat) (fv : Value) (sz : Nat) (i : Nat) (hi : i < 6) (k : Int32) (h1 : inb k (lenS.getD i 0)) : MI1 l yJ0_charAt_5068e (wU yJ0_charAt_5068e cJ0_charAt_5068e 2 ((Option.some Jvm.ClassFile.FieldType.char))) rm_J0_charAt_5068e D cA K V fv sz [.ref (K i), .int k] [] (chS i k.toNatClampNeg, ()) (fun _ : Unit => []) := by
  refine Met.ofW (cc := cJ0_charAt_5068e) (maxL := 2) (ret := (Option.some Jvm.ClassFile.FieldType.char)) (by decide) rfl ?_
  intro p e s m args below meth c s₁ B hml hv
  obtain ⟨hargs, ⟨hsz, hP, hK, hD0, hN⟩, hSS⟩ := hv
  have hx := B.exec
  have hb := B.bytes
  have hr := B.returns
  have htg : ∀ w ∈ gw, w.before args s = true := fun w h => atoms_spec (ws := wU yJ0_charAt_5068e cJ0_charAt_5068e 2 ((Option.some Jvm.ClassFile.FieldType.char))) B.pre w (List.mem_cons_of_mem _ h)
  have hown : s.vm.findClass RJ0 = some m.cls := findClass_of_methodNamed B.named
  have hlocks := B.notSynchronized
  subst hsz
  have hD := hD0.self (sz := s.heap.size)
  have hA : ∀ q : Nat, s.heap.size ≤ q → va_A ([]) s.heap.size q := fun q h => Or.inr h
  have hS : va_S (va_A ([]) s.heap.size) s.heap s.heap [] := va_S.rf
  generalize va_A ([]) s.heap.size = A at hA hD hS hSS ⊢
  obtain ⟨Q, hQ⟩ : ∃ Q : State → Prop, Q = MQ below (va_Qi (fun (r : Int32) (u : Unit) => (r, u) = (chS i k.toNatClampNeg, ())) (pst0 D cA A (fun _ : Unit => [])) A) args s 0 0 A := ⟨_, rfl⟩
  refine (?_ : W p l e rm_J0_charAt_5068e s m args below meth c s.heap [] 0 0 (MQ below (va_Qi (fun (r : Int32) (u : Unit) => (r, u) = (chS i k.toNatClampNeg, ())) (pst0 D cA A (fun _ : Unit => [])) A) args s 0 0 A) (entryFrame m args 2))
  rw [← hQ]
  subst hargs
  have hl := lv_entry ([.ref (K i), .int k]) (n := 2) (Nat.le_of_ble_eq_true rfl)
  rw [lg_entry_eq]
  generalize (lg_sl ([.ref (K i), .int k]) ++ List.replicate (2 - (lg_sl ([.ref (K i), .int k])).length) Slot.unset).toArray = ls at hl ⊢
  have hl : lv_has ls 2 [(0, .ref (K i)), (1, .int k)] := hl
  refine lv_aload_n hx hb dJ0_charAt_5068e_0 rfl (lv_at hl 0 rfl) ?_
  refine xr_i (wr := []) (wn := []) (va_runV (As := []) (rest := []) ⟨hx, hb, hml, hown, htg⟩ (c_J0_isLatin1_aae02 l D cA K V fv _ i hi) (cwV 0 htg (gV q_3_14 q_3_15 q_3_16 q_1_10 q_3_17) rfl rfl rfl hd_J0_isLatin1_aae02 ⟨Nat.le_of_ble_eq_true rfl, Nat.le_of_ble_eq_true rfl⟩) (xpVs hi hSS hS hA hN hK hP hD) rfl rfl hl.1 rfl (lv_room (Nat.le_of_ble_eq_true rfl)) dJ0_charAt_5068e_1 ⟨Nat.zero_le _, Nat.zero_le _⟩) hP hD hS hA [] [] [] rfl rfl (by decide) (by decide) rfl (by decide) (fun H locs hP hD hS => ?_)
  refine lv_if_eq (tgt := 16) hx hb dJ0_charAt_5068e_4 (by decide) (fun c1 => absurd c1 (by decide)) (fun _ => ?_)
  refine lv_aload_n hx hb dJ0_charAt_5068e_7 rfl (lv_at hl 0 rfl) ?_
  refine vk_getf hx hb (hSS.1.1 i hi).2.2.1 hS hown (htg _ q_7_28) (fun _ h9 => h9) dJ0_charAt_5068e_8 ?_
  refine lv_iload_n hx hb dJ0_charAt_5068e_11 rfl (lv_at hl 1 rfl) ?_
  refine xr_i (wr := []) (wn := []) (va_runS (As := [.ref (V i), .int k]) (rest := []) ⟨hx, hb, hml, hown, htg⟩ (c_J1_charAt_3b067 l D cA K V fv _ i hi k h1) ⟨callB_of 2 htg (gU q_3_20) rfl rfl rfl (htg _ q_1_11) (htg _ q_3_18) hd_J1_charAt_3b067.2 ⟨Nat.le_of_ble_eq_true rfl, Nat.le_of_ble_eq_true rfl⟩, htg _ q_3_19⟩ (xpS1 hSS hS hA hN hK hP hD [] rfl rfl) rfl rfl hl.1 rfl (lv_room (Nat.le_of_ble_eq_true rfl)) dJ0_charAt_5068e_12 ⟨Nat.zero_le _, Nat.zero_le _⟩) hP hD hS hA [] [] [] rfl rfl (by decide) (by decide) rfl (by decide) (fun H locs hP hD hS => ?_)
  rw [hQ]
  exact W.zret (v := chS i k.toNatClampNeg) hx hb hr (pk_nc _) (fun t9 ht hW => ⟨⟨chS i k.toNatClampNeg, (), rfl, rfl, by rw [ht]; exact hP, va_K.moved hW.alike hK, hD⟩, hS.F ht⟩) hS.2.2 dJ0_charAt_5068e_15
