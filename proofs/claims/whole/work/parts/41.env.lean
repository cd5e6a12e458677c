/-! METHODS THAT USE TEXTS OR THROW: what they need of the start beside the flat heap -/
/-- the ten words of the texts, as bytes -/
def fs_t : List (List Int32) := [[109, 97, 110, 121], [102, 105, 114, 115, 116], [111, 114], [97, 110, 100], [110, 111, 116], [112, 108, 97, 99, 101], [116, 101, 114, 109], [97, 104, 101, 97, 100], [115, 117, 109], [98, 101, 104, 105, 110, 100]]
def fs_n (i : Nat) : Nat := (fs_t.getD i []).length
def fs_c (i k : Nat) : Int32 := (fs_t.getD i []).getD k 0
def fs_l : List (String × Nat × String × Nat) := [(RX10, 77, "many", 0), (RX10, 83, "first", 1), (RX10, 85, "or", 2), (RX10, 87, "and", 3), (RX10, 89, "not", 4), (RX10, 91, "place", 5), (RX10, 93, "term", 6), (RX10, 95, "ahead", 7), (RX10, 97, "sum", 8), (RX10, 99, "behind", 9), (RX12, 477, "place", 5), (RX12, 483, "term", 6), (RX12, 487, "ahead", 7), (RX12, 489, "sum", 8), (RX12, 491, "behind", 9), (RX12, 497, "not", 4), (RX12, 511, "and", 3), (RX12, 516, "or", 2), (RX12, 518, "many", 0), (RX12, 519, "first", 1)]
def fs_m : List (Nat × String) := [(93, "no such row, or not so many bytes"), (165, "no such count"), (194, "no such fact of a row"), (203, "the row reads no such row"), (227, "most is below 1"), (235, "no such mediant"), (260, "no such part of again"), (269, "no such part of tails"), (274, "n isn't 1 to 9999"), (283, "k isn't 0 to 59"), (285, "no such single"), (294, "no such root"), (296, "no such state"), (321, "n isn't 1 to 60"), (354, "no such row"), (362, "the term isn't known")]
def fx_nm : List String := ["java/lang/RuntimeException", "java/lang/Exception"]
def fx_n (k : Nat) : String := if k = 0 then "java/lang/IllegalArgumentException" else "java/util/NoSuchElementException"
def fx_ix (k : Nat) : Nat := if k = 0 then 7 else 13
def fx_rx (k : Nat) : ByteArray := if k = 0 then Bundle.six else prog_29_method_4_code
def fx_ic (k : Nat) : Nat := if k = 0 then 95 else 167
def fx_ik (k : Nat) : Nat := if k = 0 then 91 else 163
def fx_at0 (k : Nat) : List Cond := fx_at RX11 (fx_ic k) (fx_n k) (fx_ix k) (fx_rx k) fx_nm
def fs_B : List Cond := (fx_at0 0 ++ fx_at0 1).filter (fun w => !goodWord w)
def fx_E (z : (Nat → Nat) × (Nat → Nat)) (A : Nat → Prop) (U : State) (H : Heap) : Prop :=
  (∀ i, i < 10 → va_O "java/lang/String" (z.1 i) A U H ∧ va_OF "java/lang/String" "coder" "B" (.int 0) (z.1 i) A U H ∧ va_OF "java/lang/String" "value" "[B" (.ref (z.2 i)) (z.1 i) A U H ∧ va_T .byte (z.2 i) (fs_n i) (fun j => .int (fs_c i j)) A U H) ∧
  va_Z "java/lang/String" "COMPACT_STRINGS" "Z" (.int 1) A U H ∧ va_Zq "jdk/internal/util/Preconditions" "SIOOBE_FORMATTER" "Ljava/util/function/BiFunction;" A U H ∧
  vx_Zq Bundle.tN "UNASSIGNED_STACK" Bundle.steD A U H ∧ vx_Zq Bundle.tN "SUPPRESSED_SENTINEL" Bundle.listD A U H ∧
  (∀ q ∈ fs_l, vk_R q.1 q.2.1 q.2.2.1 (z.1 q.2.2.2) U) ∧ (∀ q ∈ fs_m, ∃ sa, vk_R RX11 q.1 q.2 sa U) ∧ ∀ w ∈ fs_B, va_Nw w U
theorem fs_Bc : ∀ w ∈ fs_B, ∃ a b, (w = .castable a b ∨ ∃ x, w = .declares x) := by
  have h : fs_B.all (fun w => match w with | .castable _ _ => true | .declares _ => true | _ => false) = true := by decide +kernel
  intro w hw
  have h1 := List.all_eq_true.mp h w hw
  cases w <;> first | exact ⟨_, _, Or.inl rfl⟩ | exact ⟨"", "", Or.inr ⟨_, rfl⟩⟩ | cases h1
theorem fx_E.step {z : (Nat → Nat) × (Nat → Nat)} {S : fh_S} {g : fh_G} {s U : State} {H : Heap} {locs : List Loc} (h : fx_E z (fh_A S g s.heap.size) s s.heap) (hS : va_S (fh_A S g s.heap.size) s.heap H locs) (hU : U.heap = H) (hW : s.WarmedH U.vm) : fx_E z (fh_A S g U.heap.size) U U.heap := by
  have hn : ∀ q, fh_A S g U.heap.size q → fh_A S g s.heap.size q := fun q hq => fh_A_le (by rw [hU]; exact hS.1) hq
  obtain ⟨h1, h2, h3, h4, h5, h6, h7, h8⟩ := h
  subst hU
  refine ⟨fun i hi => ?_, ((h2.kept hS.2.1).moved hW.alike).narrow hn, ((h3.kept hS.2.1).moved hW.alike).narrow hn, (vx_Zq.moved hW.alike (h4.kept hS.2.1)).narrow hn, (vx_Zq.moved hW.alike (h5.kept hS.2.1)).narrow hn, fun q hq => (h6 q hq).warm hW, fun q hq => ?_, fun w hw => ?_⟩
  · obtain ⟨a1, a2, a3, a4⟩ := h1 i hi
    exact ⟨((a1.kept hS.2.1).moved hW.alike).narrow hn, ((a2.kept hS.2.1).moved hW.alike).narrow hn, ((a3.kept hS.2.1).moved hW.alike).narrow hn, ((a4.kept hS.2.1).moved hW.alike).narrow hn⟩
  · obtain ⟨sa, h⟩ := h7 q hq
    exact ⟨sa, h.warm hW⟩
  · obtain ⟨a, b, h⟩ := fs_Bc w hw
    have h9 := h8 w hw
    rcases h with rfl | ⟨x, rfl⟩
    · exact va_Nw.warmC hW h9
    · exact va_Nw.warmD hW h9
theorem fx_E.call {z : (Nat → Nat) × (Nat → Nat)} {A : Nat → Prop} {U : State} {f : JFrame} {mk : MethodId} {a : Array Value} (h : fx_E z A U U.heap) : fx_E z A (U.calling f mk a) (U.calling f mk a).heap := by
  have hv : U.vm.Alike (U.calling f mk a).vm := Vm.Alike.refl U.vm
  obtain ⟨h1, h2, h3, h4, h5, h6, h7, h8⟩ := h
  refine ⟨fun i hi => ?_, h2.moved hv, h3.moved hv, vx_Zq.moved hv h4, vx_Zq.moved hv h5, fun q hq => (h6 q hq).same rfl, fun q hq => ?_, fun w hw => ?_⟩
  · obtain ⟨a1, a2, a3, a4⟩ := h1 i hi
    exact ⟨a1.moved hv, a2.moved hv, a3.moved hv, a4.moved hv⟩
  · obtain ⟨sa, h⟩ := h7 q hq
    exact ⟨sa, h.same rfl⟩
  · obtain ⟨a, b, h⟩ := fs_Bc w hw
    have h9 := h8 w hw
    rcases h with rfl | ⟨x, rfl⟩ <;> exact va_Nw.same rfl rfl h9
def fx_P (S : fh_S) (g : fh_G) (z : (Nat → Nat) × (Nat → Nat)) (av : List Value) (sz : Nat) (h : fh_H) : Array Value → State → Prop := va_Pc av (fun U => U.heap.size = sz ∧ va_P g.1 vwCl (fh_w S g h) U.heap ∧ fh_K g U ∧ fx_E z (fh_A S g sz) U U.heap)
theorem fx_blind (S : fh_S) (g : fh_G) (z : (Nat → Nat) × (Nat → Nat)) (av : List Value) (sz : Nat) (h : fh_H) : FrameBlind (fx_P S g z av sz h) := fun _ _ _ _ q => ⟨q.1, q.2.1, q.2.2.1, q.2.2.2.1.call, q.2.2.2.2.call⟩
def fx_M (l : Launch) (y : MethodName) (cc : ByteArray) (nL : Nat) (ret : Option FieldType) (rm : Room) (S : fh_S) (g : fh_G) (z : (Nat → Nat) × (Nat → Nat)) (av : List Value) (h : fh_H) (v : Option Value) (h' : fh_H) : Prop :=
  ∀ sz, Met l y (.code y cc nL ret :: fh_U) rm (fx_P S g z av sz h) (fh_Q S g sz v h') 0 0 (fh_A S g sz)
/-- .. and a method that answers or throws: exception number k of fx_n; it makes at most n exceptions -/
def fx_rm (d n : Nat) : Room := { frames := d + 20, cells := n, slots := 6 * n, locals := 60 * d + 600 }
def fx_Mx (l : Launch) (y : MethodName) (cc : ByteArray) (nL : Nat) (ret : Option FieldType) (d n : Nat) (S : fh_S) (g : fh_G) (z : (Nat → Nat) × (Nat → Nat)) (av : List Value) (h : fh_H) (o : Nat ⊕ Option Value) (h' : fh_H) : Prop :=
  ∀ sz, vx_Met l y (.code y cc nL ret :: fh_U) (fx_rm d n) (fx_P S g z av sz h) (fun a st oc t => ∃ v, o = .inr v ∧ fh_Q S g sz v h' a st oc t) (fun E st t => ∃ k, o = .inl k ∧ E = fx_n k ∧ va_P g.1 vwCl (fh_w S g h') t.heap ∧ va_F (fh_A S g sz) st t) n (6 * n) (fh_A S g sz)
def fx_oi (r : Nat ⊕ Int32) : Nat ⊕ Option Value := match r with | .inl k => .inl k | .inr v => .inr (some (.int v))
def fx_ol (r : Nat ⊕ Int64) : Nat ⊕ Option Value := match r with | .inl k => .inl k | .inr v => .inr (some (.long v))
def fx_or (g : fh_G) (r : Nat ⊕ Option Nat) : Nat ⊕ Option Value := match r with | .inl k => .inl k | .inr v => .inr (some (va_rf (v.map g.2.2)))
def fx_ov (r : Nat ⊕ Unit) : Nat ⊕ Option Value := match r with | .inl k => .inl k | .inr _ => .inr none
theorem fz_head {l : Launch} {y : MethodName} {cc : ByteArray} {nL : Nat} {ret : Option FieldType} {rm : Room} {S : fh_S} {g : fh_G} {z : (Nat → Nat) × (Nat → Nat)} {av : List Value} {h h' : fh_H} {v : Option Value} {own : String} (hy : plainName y.cls = true) (hyc : y.cls = own) (hj : fh_inj S g) (hnl : (lg_sl av).length ≤ nL)
    (body : ∀ (p : Program) (e : Env) (s : State) (m : MethodId) (below : List Frame) (meth : Method) (c : Code) (ls : Array Slot), fh_C p m c cc nL s av.toArray own S g → fx_E z (fh_A S g s.heap.size) s s.heap → meth.sig.returnType = ret → meth.locks = false → fh_R S g s.heap h s.heap [] → lv_has ls nL (lv_args 0 av) →
      W p l e rm s m av.toArray below meth c s.heap [] 0 0 (MQ below (fh_Q S g s.heap.size v h') av.toArray s 0 0 (fh_A S g s.heap.size)) (F0 m 0 ls [])) : fx_M l y cc nL ret rm S g z av h v h' := by
  intro sz
  refine Met.ofW (cc := cc) (maxL := nL) (ret := ret) hy rfl ?_
  intro p e s m args below meth c s₁ B hml hv
  obtain ⟨rfl, hsz, hP, hK, hE⟩ := hv
  subst hsz
  have hts := atoms_spec (ws := .code y cc nL ret :: fh_U) B.pre
  have hown : s.vm.findClass own = some m.cls := hyc ▸ findClass_of_methodNamed B.named
  rw [lg_entry_eq]
  exact body p e s m below meth c _ ⟨⟨B.exec, B.bytes, hml, hown, fun w hw => hts w (List.mem_cons_of_mem _ hw)⟩, hK, hj⟩ hE B.returns B.notSynchronized ⟨hP, va_S.rf⟩ (lv_entry av hnl)
def fx_Q (S : fh_S) (g : fh_G) (sz : Nat) (o : Nat ⊕ Option Value) (h' : fh_H) : Array Value → State → Outcome → State → Prop := fun a st oc t => ∃ v, o = .inr v ∧ fh_Q S g sz v h' a st oc t
def fx_XC (S : fh_S) (g : fh_G) (sz : Nat) (o : Nat ⊕ Option Value) (h' : fh_H) : String → State → State → Prop := fun E st t => ∃ k, o = .inl k ∧ E = fx_n k ∧ va_P g.1 vwCl (fh_w S g h') t.heap ∧ va_F (fh_A S g sz) st t
theorem fz_headX {l : Launch} {y : MethodName} {cc : ByteArray} {nL d n : Nat} {ret : Option FieldType} {S : fh_S} {g : fh_G} {z : (Nat → Nat) × (Nat → Nat)} {av : List Value} {h h' : fh_H} {o : Nat ⊕ Option Value} {own : String} (hy : plainName y.cls = true) (hyc : y.cls = own) (hj : fh_inj S g) (hnl : (lg_sl av).length ≤ nL)
    (body : ∀ (p : Program) (e : Env) (s : State) (m : MethodId) (below : List Frame) (meth : Method) (c : Code) (ls : Array Slot), fh_C p m c cc nL s av.toArray own S g → fx_E z (fh_A S g s.heap.size) s s.heap → (∀ x ∈ c.exceptionTable.toList, False) → meth.sig.returnType = ret → meth.locks = false → fh_R S g s.heap h s.heap [] → lv_has ls nL (lv_args 0 av) →
      W p l e (fx_rm d n) s m av.toArray below meth c s.heap [] 0 0 (vx_MQ below (fx_Q S g s.heap.size o h') (fx_XC S g s.heap.size o h') av.toArray s n (6 * n) (fh_A S g s.heap.size)) (F0 m 0 ls [])) : fx_Mx l y cc nL ret d n S g z av h o h' := by
  intro sz
  refine vx_ofW (cc := cc) (maxL := nL) (ret := ret) hy rfl ?_
  intro p e s m args below meth c s₁ B hml hno hv
  obtain ⟨rfl, hsz, hP, hK, hE⟩ := hv
  subst hsz
  have hts := atoms_spec (ws := .code y cc nL ret :: fh_U) B.pre
  have hown : s.vm.findClass own = some m.cls := hyc ▸ findClass_of_methodNamed B.named
  rw [lg_entry_eq]
  exact body p e s m below meth c _ ⟨⟨B.exec, B.bytes, hml, hown, fun w hw => hts w (List.mem_cons_of_mem _ hw)⟩, hK, hj⟩ hE hno B.returns B.notSynchronized ⟨hP, va_S.rf⟩ (lv_entry av hnl)
