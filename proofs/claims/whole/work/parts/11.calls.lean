/-! CONTRACTS over the flat heap: what a method answers and what the heap holds behind it -/
def fh_P (S : fh_S) (g : fh_G) (av : List Value) (sz : Nat) (h : fh_H) : Array Value → State → Prop := va_Pc av (fun U => U.heap.size = sz ∧ va_P g.1 vwCl (fh_w S g h) U.heap ∧ fh_K g U)
def fh_Q (S : fh_S) (g : fh_G) (sz : Nat) (v : Option Value) (h : fh_H) : Array Value → State → Outcome → State → Prop := fun _ st oc t => oc = .returned v ∧ va_P g.1 vwCl (fh_w S g h) t.heap ∧ va_F (fh_A S g sz) st t
def fh_M (l : Launch) (y : MethodName) (cc : ByteArray) (nL : Nat) (ret : Option FieldType) (rm : Room) (S : fh_S) (g : fh_G) (av : List Value) (h : fh_H) (v : Option Value) (h' : fh_H) : Prop :=
  ∀ sz, Met l y (.code y cc nL ret :: fh_U) rm (fh_P S g av sz h) (fh_Q S g sz v h') 0 0 (fh_A S g sz)
/-- the room of a method at depth d -/
def fh_rm (d : Nat) : Room := { frames := d + 20, cells := 0, slots := 0, locals := 60 * d + 600 }
theorem fh_blind (S : fh_S) (g : fh_G) (av : List Value) (sz : Nat) (h : fh_H) : FrameBlind (fh_P S g av sz h) := fun _ _ _ _ q => ⟨q.1, q.2.1, q.2.2.1, q.2.2.2.call⟩
theorem fr_head {l : Launch} {y : MethodName} {cc : ByteArray} {nL : Nat} {ret : Option FieldType} {rm : Room} {S : fh_S} {g : fh_G} {av : List Value} {h h' : fh_H} {v : Option Value} {own : String} (hy : plainName y.cls = true) (hyc : y.cls = own) (hj : fh_inj S g) (hnl : (lg_sl av).length ≤ nL)
    (body : ∀ (p : Program) (e : Env) (s : State) (m : MethodId) (below : List Frame) (meth : Method) (c : Code) (ls : Array Slot), fh_C p m c cc nL s av.toArray own S g → meth.sig.returnType = ret → meth.locks = false → fh_R S g s.heap h s.heap [] → lv_has ls nL (lv_args 0 av) →
      W p l e rm s m av.toArray below meth c s.heap [] 0 0 (MQ below (fh_Q S g s.heap.size v h') av.toArray s 0 0 (fh_A S g s.heap.size)) (F0 m 0 ls [])) : fh_M l y cc nL ret rm S g av h v h' := by
  intro sz
  refine Met.ofW (cc := cc) (maxL := nL) (ret := ret) hy rfl ?_
  intro p e s m args below meth c s₁ B hml hv
  obtain ⟨rfl, hsz, hP, hK⟩ := hv
  subst hsz
  have hts := atoms_spec (ws := .code y cc nL ret :: fh_U) B.pre
  have hown : s.vm.findClass own = some m.cls := hyc ▸ findClass_of_methodNamed B.named
  rw [lg_entry_eq]
  exact body p e s m below meth c _ ⟨⟨B.exec, B.bytes, hml, hown, fun w hw => hts w (List.mem_cons_of_mem _ hw)⟩, hK, hj⟩ B.returns B.notSynchronized ⟨hP, va_S.rf⟩ (lv_entry av hnl)
/-- what is called, by its name -/
def fh_Y (y : MethodName) (cc : ByteArray) (nL : Nat) (ret : Option FieldType) (n : Nat) : Prop := Cond.code y cc nL ret ∈ fh_U ∧ Cond.initialized y.cls ∈ fh_U ∧ y.cls ≠ "java/lang/invoke/MethodHandle" ∧ y.cls ≠ "java/lang/invoke/VarHandle" ∧ (parseMethodDescriptor y.desc).map (fun d => d.parameters.length) = some n
def fh_YV (y : MethodName) : Prop := Cond.instanceMethod y ∈ fh_U ∧ Cond.selects y.cls y y ∈ fh_U
section FHC
variable {p : Program} {l : Launch} {e : Env} {R : Room} {s : State} {m : MethodId} {args : Array Value} {below : List Frame} {meth : Method} {c : Code} {H : Heap} {locs : List Loc} {cells slots : Nat} {Q : State → Prop}
variable {cc : ByteArray} {pc nL : Nat} {ls : Array Slot} {rest st0 : List Value} {own : String} {S : fh_S} {g : fh_G} {h h' : fh_H} {v : Option Value}
theorem fh_A_le {sz sz' : Nat} (hs : sz ≤ sz') {q : Nat} (hq : fh_A S g sz' q) : fh_A S g sz q := hq.elim Or.inl (fun z => Or.inr (Nat.le_trans hs z))
theorem fr_run {a : Array Value} (hR : fh_R S g s.heap h H locs) (hr : va_Run p l e R s m args below meth c H locs cells slots 0 0 (F0 m pc ls st0) rest (fh_Q S g H.size v h' a) (fh_A S g H.size))
    (kk : ∀ (H1 : Heap) (locs1 : List Loc), fh_R S g s.heap h' H1 locs1 → W p l e R s m args below meth c H1 locs1 cells slots Q (F0 m (pc + 3) ls (v.toList ++ rest))) : W p l e R s m args below meth c H locs cells slots Q (F0 m pc ls st0) := by
  intro T hT X
  obtain ⟨v0, st₀, t, T', L, h0, X', hL, e1, e2, ⟨hv, hp, hz, hk⟩, st⟩ := hr T hT X
  cases hv
  rw [h0] at hz hk
  have hS := hR.2
  obtain ⟨t2, a1, b1⟩ := kk T'.heap (locs ++ L) ⟨by rw [e1]; exact hp, Nat.le_trans hS.1 (by rw [e1]; exact hz), fun q h1 h2 => by
      rw [e1, hk q (Nat.lt_of_lt_of_le h1 hS.1) (fun z => h2 (fh_A_le hS.1 z))]; exact hS.2.1 q h1 h2, fun q hq => by
      rcases List.mem_append.mp hq with z | z
      · exact hS.2.2 q z
      · exact fh_A_le hS.1 (hL q z)⟩ T' rfl X'
  exact ⟨t2, st t2 a1, b1⟩
theorem fh_gdc {y : MethodName} {cc : ByteArray} {nL : Nat} {ret : Option FieldType} (h : Cond.code y cc nL ret ∈ fh_U) : GoodIn fh_U (Cond.code y cc nL ret :: fh_U) := fh_gd (fun w hw => (List.mem_cons.mp hw).elim (fun q => q ▸ h) id)
theorem fr_callV {y : MethodName} {bc : ByteArray} {mL n d idx ci i : Nat} {ret : Option FieldType} {As : List Value} (C : fh_C p m c cc nL s args own S g) (hR : fh_R S g s.heap h H locs) (hM : fh_M l y bc mL ret (fh_rm d) S g (.ref (g.2.2 i) :: As) h v h') (Y : fh_Y y bc mL ret n) (YV : fh_YV y) (lk : Cond.methodLink own idx y ∈ fh_U)
    (hi : fh_kq S i ci = true) (hc : ∃ T N, vwCl[ci]? = some (y.cls, T, N) ∧ ci < 13) (hn : As.length = n) (hsz : ls.size = nL) (hrm : d + 21 ≤ R.frames ∧ mL + (60 * d + 619) ≤ R.locals) (hst : st0 = As.reverse ++ .ref (g.2.2 i) :: rest) (hW : (rest.map fun v => v.category).sum ≤ 8) (hcap : cells ≤ R.cells ∧ slots ≤ R.slots) (hdg : decode cc pc = .ok (.invokevirtual idx, 3))
    (kk : ∀ (H1 : Heap) (locs1 : List Loc), fh_R S g s.heap h' H1 locs1 → W p l e R s m args below meth c H1 locs1 cells slots Q (F0 m (pc + 3) ls (v.toList ++ rest))) : W p l e R s m args below meth c H locs cells slots Q (F0 m pc ls st0) := by
  subst hst
  obtain ⟨T, N, hc, h6⟩ := hc
  obtain ⟨Y1, Y2, Y3, Y4, Y5⟩ := Y
  have hcw : CallW R s args own y.cls idx y bc mL ret (.code y bc mL ret :: fh_U) (fh_rm d) 0 0 n := cwV n C.1.2.2.2.2 (fh_gd (fun w hw => by
    simp only [wsV, List.mem_append, List.mem_cons, List.not_mem_nil, or_false] at hw
    rcases hw with (rfl | rfl | rfl | rfl) | (rfl | hw)
    · exact lk
    · exact YV.1
    · exact YV.2
    · exact Y2
    · exact Y1
    · exact hw)) rfl rfl rfl ⟨rfl, Y3, Y4, Y5⟩ ⟨by show d + 20 + 1 ≤ _; omega, by show 8 + (mL + 11) + (60 * d + 600) ≤ _; omega⟩
  exact fr_run hR (va_runV C.1 (hM H.size) hcw ⟨fh_blind S g _ _ h, va_recv C.2.1.1 hR.1 hc (by rw [fh_w_at S g h (fh_kq_lt hi), fh_e_ob g h (fh_kq_k hi) h6]), fun U hU hW => ⟨rfl, by rw [hU], by rw [hU]; exact hR.1, C.2.1.warm hW⟩⟩ rfl hn hsz rfl (lv_room hW) hdg ⟨hcap.1, hcap.2⟩) kk
theorem fr_callS {y : MethodName} {bc : ByteArray} {mL n d idx : Nat} {ret : Option FieldType} {As : List Value} (C : fh_C p m c cc nL s args own S g) (hR : fh_R S g s.heap h H locs) (hM : fh_M l y bc mL ret (fh_rm d) S g As h v h') (Y : fh_Y y bc mL ret n) (YS : Cond.static y ∈ fh_U) (lk : Cond.methodLink own idx y ∈ fh_U)
    (hn : As.length = n) (hsz : ls.size = nL) (hrm : d + 21 ≤ R.frames ∧ mL + (60 * d + 619) ≤ R.locals) (hst : st0 = As.reverse ++ rest) (hW : (rest.map fun v => v.category).sum ≤ 8) (hcap : cells ≤ R.cells ∧ slots ≤ R.slots) (hdg : decode cc pc = .ok (.invokestatic idx, 3))
    (kk : ∀ (H1 : Heap) (locs1 : List Loc), fh_R S g s.heap h' H1 locs1 → W p l e R s m args below meth c H1 locs1 cells slots Q (F0 m (pc + 3) ls (v.toList ++ rest))) : W p l e R s m args below meth c H locs cells slots Q (F0 m pc ls st0) := by
  subst hst
  obtain ⟨Y1, Y2, Y3, Y4, Y5⟩ := Y
  have hcw : CallB R s args own idx y bc mL ret (.code y bc mL ret :: fh_U) (fh_rm d) 0 0 n := callB_of n C.1.2.2.2.2 (fh_gdc Y1) rfl rfl rfl (C.1.2.2.2.2 _ Y2) (C.1.2.2.2.2 _ lk) ⟨Y3, Y4, Y5⟩ ⟨by show d + 20 + 1 ≤ _; omega, by show 8 + (mL + 11) + (60 * d + 600) ≤ _; omega⟩
  exact fr_run hR (va_runS C.1 (hM H.size) ⟨hcw, C.1.2.2.2.2 _ YS⟩ ⟨fh_blind S g _ _ h, fun U hU hW => ⟨rfl, by rw [hU], by rw [hU]; exact hR.1, C.2.1.warm hW⟩⟩ rfl hn hsz rfl (lv_room hW) hdg ⟨hcap.1, hcap.2⟩) kk
theorem fr_callSN {y : MethodName} {host : String} {bc : ByteArray} {mL n d idx : Nat} {ret : Option FieldType} {As : List Value} (C : fh_C p m c cc nL s args own S g) (hR : fh_R S g s.heap h H locs) (hM : fh_M l y bc mL ret (fh_rm d) S g As h v h') (Y : fh_Y y bc mL ret n) (YS : Cond.static y ∈ fh_U) (lk : va_Nw (.methodLinkNest own idx y host) s)
    (hn : As.length = n) (hsz : ls.size = nL) (hrm : d + 21 ≤ R.frames ∧ mL + (60 * d + 619) ≤ R.locals) (hst : st0 = As.reverse ++ rest) (hW : (rest.map fun v => v.category).sum ≤ 8) (hcap : cells ≤ R.cells ∧ slots ≤ R.slots) (hdg : decode cc pc = .ok (.invokestatic idx, 3))
    (kk : ∀ (H1 : Heap) (locs1 : List Loc), fh_R S g s.heap h' H1 locs1 → W p l e R s m args below meth c H1 locs1 cells slots Q (F0 m (pc + 3) ls (v.toList ++ rest))) : W p l e R s m args below meth c H locs cells slots Q (F0 m pc ls st0) := by
  subst hst
  obtain ⟨Y1, Y2, Y3, Y4, Y5⟩ := Y
  have hcw : va_CN R s args own idx y host bc mL ret (.code y bc mL ret :: fh_U) (fh_rm d) 0 0 n := va_cnB n C.1.2.2.2.2 (fh_gdc Y1) rfl rfl rfl lk (C.1.2.2.2.2 _ Y2) ⟨Y3, Y4, Y5⟩ ⟨by show d + 20 + 1 ≤ _; omega, by show 8 + (mL + 11) + (60 * d + 600) ≤ _; omega⟩
  exact fr_run hR (va_runSN C.1 (hM H.size) ⟨hcw, C.1.2.2.2.2 _ YS, trivial⟩ ⟨fh_blind S g _ _ h, fun U hU hW => ⟨rfl, by rw [hU], by rw [hU]; exact hR.1, C.2.1.warm hW⟩⟩ rfl hn hsz rfl (lv_room hW) hdg ⟨hcap.1, hcap.2⟩) kk
-- the ends
theorem fr_iret {r x : Int32} (C : fh_C p m c cc nL s args own S g) (hr : meth.sig.returnType = some .int) (hlocks : meth.locks = false) (hR : fh_R S g s.heap h H locs) (ev : x = r) (eh : h = h') (hdg : decode cc pc = .ok (.ireturn, 1)) :
    W p l e R s m args below meth c H locs 0 0 (MQ below (fh_Q S g s.heap.size (some (.int r)) h') args s 0 0 (fh_A S g s.heap.size)) (F0 m pc ls [.int x]) := by
  subst ev eh
  exact W.iret C.1.1 C.1.2.1 hr (fun t ht hW => ⟨rfl, by rw [ht]; exact hR.1, hR.2.F ht⟩) hR.2.2.2 hdg hlocks
theorem fr_zret {r x : Int32} (C : fh_C p m c cc nL s args own S g) (hr : meth.sig.returnType = some .boolean) (hlocks : meth.locks = false) (hR : fh_R S g s.heap h H locs) (hz : x = 0 ∨ x = 1) (ev : x = r) (eh : h = h') (hdg : decode cc pc = .ok (.ireturn, 1)) :
    W p l e R s m args below meth c H locs 0 0 (MQ below (fh_Q S g s.heap.size (some (.int r)) h') args s 0 0 (fh_A S g s.heap.size)) (F0 m pc ls [.int x]) := by
  subst ev eh
  exact W.zret C.1.1 C.1.2.1 hr (fr_nb hz).1 (fun t ht hW => ⟨rfl, by rw [ht]; exact hR.1, hR.2.F ht⟩) hR.2.2.2 hdg hlocks
theorem fr_lret {r x : Int64} (C : fh_C p m c cc nL s args own S g) (hr : meth.sig.returnType = some .long) (hlocks : meth.locks = false) (hR : fh_R S g s.heap h H locs) (ev : x = r) (eh : h = h') (hdg : decode cc pc = .ok (.lreturn, 1)) :
    W p l e R s m args below meth c H locs 0 0 (MQ below (fh_Q S g s.heap.size (some (.long r)) h') args s 0 0 (fh_A S g s.heap.size)) (F0 m pc ls [.long x]) := by
  subst ev eh
  exact W.lret C.1.1 C.1.2.1 hr (fun t ht hW => ⟨rfl, by rw [ht]; exact hR.1, hR.2.F ht⟩) hR.2.2.2 hdg hlocks
theorem fr_vret (C : fh_C p m c cc nL s args own S g) (hr : meth.sig.returnType = none) (hlocks : meth.locks = false) (hR : fh_R S g s.heap h H locs) (eh : h = h') (hdg : decode cc pc = .ok (.return_, 1)) :
    W p l e R s m args below meth c H locs 0 0 (MQ below (fh_Q S g s.heap.size none h') args s 0 0 (fh_A S g s.heap.size)) (F0 m pc ls []) := by
  subst eh
  exact W.vret C.1.1 C.1.2.1 hr (fun t ht hW => ⟨rfl, by rw [ht]; exact hR.1, hR.2.F ht⟩) hR.2.2.2 hdg hlocks
theorem fr_aret {r : Option Nat} {j : Nat} {cn : String} (C : fh_C p m c cc nL s args own S g) (hr : meth.sig.returnType = some (.object cn)) (hlocks : meth.locks = false) (hR : fh_R S g s.heap h H locs) (ev : some j = r) (eh : h = h') (hdg : decode cc pc = .ok (.areturn, 1)) :
    W p l e R s m args below meth c H locs 0 0 (MQ below (fh_Q S g s.heap.size (some (va_rf (r.map g.2.2))) h') args s 0 0 (fh_A S g s.heap.size)) (F0 m pc ls [.ref (g.2.2 j)]) := by
  subst ev eh
  exact W.aret C.1.1 C.1.2.1 hr (Or.inl ⟨_, rfl⟩) (Or.inr ⟨_, rfl⟩) (fun t ht hW => ⟨rfl, by rw [ht]; exact hR.1, hR.2.F ht⟩) hR.2.2.2 hdg hlocks
theorem fr_nret {r : Option Nat} {cn : String} (C : fh_C p m c cc nL s args own S g) (hr : meth.sig.returnType = some (.object cn)) (hlocks : meth.locks = false) (hR : fh_R S g s.heap h H locs) (ev : none = r) (eh : h = h') (hdg : decode cc pc = .ok (.areturn, 1)) :
    W p l e R s m args below meth c H locs 0 0 (MQ below (fh_Q S g s.heap.size (some (va_rf (r.map g.2.2))) h') args s 0 0 (fh_A S g s.heap.size)) (F0 m pc ls [.null]) := by
  subst ev eh
  exact W.aret C.1.1 C.1.2.1 hr (Or.inl ⟨_, rfl⟩) (Or.inl rfl) (fun t ht hW => ⟨rfl, by rw [ht]; exact hR.1, hR.2.F ht⟩) hR.2.2.2 hdg hlocks
-- longs compared, then a branch
theorem fr_lc_lt (hx : p.tables.exec = Jvm.exec) (hb : c.code = cc) {x y : Int64} {off : Int} {tgt : Nat} (h1 : decode cc pc = .ok (.lcmp, 1)) (h2 : decode cc (pc + 1) = .ok (.ifCond .lt off, 3)) (ht : ((pc + 1 : Nat) : Int) + off = (tgt : Int))
    (kt : x < y → W p l e R s m args below meth c H locs cells slots Q (F0 m tgt ls rest)) (kf : ¬ x < y → W p l e R s m args below meth c H locs cells slots Q (F0 m (pc + 4) ls rest)) : W p l e R s m args below meth c H locs cells slots Q (F0 m pc ls (.long y :: .long x :: rest)) :=
  W.lcmp hx hb h1 (lv_if_lt hx hb h2 ht (fun q => kt ((lg_cmp_lt x y).mp q)) (fun q => kf (fun z => q ((lg_cmp_lt x y).mpr z))))
theorem fr_lc_ge (hx : p.tables.exec = Jvm.exec) (hb : c.code = cc) {x y : Int64} {off : Int} {tgt : Nat} (h1 : decode cc pc = .ok (.lcmp, 1)) (h2 : decode cc (pc + 1) = .ok (.ifCond .ge off, 3)) (ht : ((pc + 1 : Nat) : Int) + off = (tgt : Int))
    (kt : y ≤ x → W p l e R s m args below meth c H locs cells slots Q (F0 m tgt ls rest)) (kf : ¬ y ≤ x → W p l e R s m args below meth c H locs cells slots Q (F0 m (pc + 4) ls rest)) : W p l e R s m args below meth c H locs cells slots Q (F0 m pc ls (.long y :: .long x :: rest)) :=
  W.lcmp hx hb h1 (lv_if_ge hx hb h2 ht (fun q => kt ((lg_cmp_ge x y).mp q)) (fun q => kf (fun z => q ((lg_cmp_ge x y).mpr z))))
theorem fr_lc_gt (hx : p.tables.exec = Jvm.exec) (hb : c.code = cc) {x y : Int64} {off : Int} {tgt : Nat} (h1 : decode cc pc = .ok (.lcmp, 1)) (h2 : decode cc (pc + 1) = .ok (.ifCond .gt off, 3)) (ht : ((pc + 1 : Nat) : Int) + off = (tgt : Int))
    (kt : y < x → W p l e R s m args below meth c H locs cells slots Q (F0 m tgt ls rest)) (kf : ¬ y < x → W p l e R s m args below meth c H locs cells slots Q (F0 m (pc + 4) ls rest)) : W p l e R s m args below meth c H locs cells slots Q (F0 m pc ls (.long y :: .long x :: rest)) :=
  W.lcmp hx hb h1 (lv_if_gt hx hb h2 ht (fun q => kt ((lg_cmp_gt x y).mp q)) (fun q => kf (fun z => q ((lg_cmp_gt x y).mpr z))))
theorem fr_lc_le (hx : p.tables.exec = Jvm.exec) (hb : c.code = cc) {x y : Int64} {off : Int} {tgt : Nat} (h1 : decode cc pc = .ok (.lcmp, 1)) (h2 : decode cc (pc + 1) = .ok (.ifCond .le off, 3)) (ht : ((pc + 1 : Nat) : Int) + off = (tgt : Int))
    (kt : x ≤ y → W p l e R s m args below meth c H locs cells slots Q (F0 m tgt ls rest)) (kf : ¬ x ≤ y → W p l e R s m args below meth c H locs cells slots Q (F0 m (pc + 4) ls rest)) : W p l e R s m args below meth c H locs cells slots Q (F0 m pc ls (.long y :: .long x :: rest)) :=
  W.lcmp hx hb h1 (lv_if_le hx hb h2 ht (fun q => kt ((lg_cmp_le x y).mp q)) (fun q => kf (fun z => q ((lg_cmp_le x y).mpr z))))
theorem fr_lc_eq (hx : p.tables.exec = Jvm.exec) (hb : c.code = cc) {x y : Int64} {off : Int} {tgt : Nat} (h1 : decode cc pc = .ok (.lcmp, 1)) (h2 : decode cc (pc + 1) = .ok (.ifCond .eq off, 3)) (ht : ((pc + 1 : Nat) : Int) + off = (tgt : Int))
    (kt : x = y → W p l e R s m args below meth c H locs cells slots Q (F0 m tgt ls rest)) (kf : ¬ x = y → W p l e R s m args below meth c H locs cells slots Q (F0 m (pc + 4) ls rest)) : W p l e R s m args below meth c H locs cells slots Q (F0 m pc ls (.long y :: .long x :: rest)) :=
  W.lcmp hx hb h1 (lv_if_eq hx hb h2 ht (fun q => kt ((lg_cmp_eq x y).mp q)) (fun q => kf (fun z => q ((lg_cmp_eq x y).mpr z))))
theorem fr_lc_ne (hx : p.tables.exec = Jvm.exec) (hb : c.code = cc) {x y : Int64} {off : Int} {tgt : Nat} (h1 : decode cc pc = .ok (.lcmp, 1)) (h2 : decode cc (pc + 1) = .ok (.ifCond .ne off, 3)) (ht : ((pc + 1 : Nat) : Int) + off = (tgt : Int))
    (kt : ¬ x = y → W p l e R s m args below meth c H locs cells slots Q (F0 m tgt ls rest)) (kf : x = y → W p l e R s m args below meth c H locs cells slots Q (F0 m (pc + 4) ls rest)) : W p l e R s m args below meth c H locs cells slots Q (F0 m pc ls (.long y :: .long x :: rest)) :=
  W.lcmp hx hb h1 (lv_if_ne hx hb h2 ht (fun q => kt (fun z => q ((lg_cmp_eq x y).mpr z))) (fun q => kf ((lg_cmp_eq x y).mp q)))
end FHC
/-! the words of the functions that the methods are turned into -/
def fh_dr {α : Type} (S : fh_S) (o : Option Nat) (ci : Nat) (f : Nat → Option α) : Option α := match o with
  | none => none
  | some j => if fh_kq S j ci = true then f j else none
def fh_ck {α : Type} (b : Bool) (f : Option α) : Option α := if b = true then f else none
def fh_nn {α : Type} (o : Option Nat) (f : Option α) (k : Nat → Option α) : Option α := match o with
  | none => f
  | some j => k j
def fh_b1 {α β : Type} (o : Option α) (f : α → Option β) : Option β := match o with
  | none => none
  | some a => f a
def fh_b2 {α β : Type} (o : Option (α × fh_H)) (f : α → fh_H → Option β) : Option β := match o with
  | none => none
  | some a => f a.1 a.2
theorem fr_dr {α : Type} {S : fh_S} {o : Option Nat} {ci : Nat} {f : Nat → Option α} {x : α} (h : fh_dr S o ci f = some x) : ∃ j, o = some j ∧ fh_kq S j ci = true ∧ f j = some x := by
  cases o with
  | none => cases h
  | some j =>
    by_cases hk : fh_kq S j ci = true
    · exact ⟨j, rfl, hk, by simpa [fh_dr, hk] using h⟩
    · simp [fh_dr, hk] at h
theorem fr_ck {α : Type} {b : Bool} {f : Option α} {x : α} (h : fh_ck b f = some x) : b = true ∧ f = some x := by
  cases b with
  | false => simp [fh_ck] at h
  | true => exact ⟨rfl, by simpa [fh_ck] using h⟩
theorem fr_b1 {α β : Type} {o : Option α} {f : α → Option β} {x : β} (h : fh_b1 o f = some x) : ∃ a, o = some a ∧ f a = some x := by
  cases o with
  | none => cases h
  | some a => exact ⟨a, rfl, h⟩
theorem fr_b2 {α β : Type} {o : Option (α × fh_H)} {f : α → fh_H → Option β} {x : β} (h : fh_b2 o f = some x) : ∃ a k, o = some (a, k) ∧ f a k = some x := by
  cases o with
  | none => cases h
  | some a => exact ⟨a.1, a.2, rfl, h⟩
theorem fr_s2 {α β : Type} {a c : α} {b d : β} (h : some (a, b) = some (c, d)) : a = c ∧ b = d := by cases h; exact ⟨rfl, rfl⟩
theorem fr_s1 {α : Type} {a b : α} (h : some a = some b) : a = b := Option.some.inj h
