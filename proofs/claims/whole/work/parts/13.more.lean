/-! calls with the stack behind them spelled out; words of the functions -/
section FHQ
variable {p : Program} {l : Launch} {e : Env} {R : Room} {s : State} {m : MethodId} {args : Array Value} {below : List Frame} {meth : Method} {c : Code} {H : Heap} {locs : List Loc} {cells slots : Nat} {Q : State → Prop}
variable {cc : ByteArray} {pc nL : Nat} {ls : Array Slot} {rest st0 st1 : List Value} {own : String} {S : fh_S} {g : fh_G} {h h' : fh_H} {v : Option Value}
theorem fq_callV {y : MethodName} {bc : ByteArray} {mL n d idx ci i : Nat} {ret : Option FieldType} {As : List Value} (C : fh_C p m c cc nL s args own S g) (hR : fh_R S g s.heap h H locs) (hM : fh_M l y bc mL ret (fh_rm d) S g (.ref (g.2.2 i) :: As) h v h') (Y : fh_Y y bc mL ret n) (YV : fh_YV y) (lk : Cond.methodLink own idx y ∈ fh_U)
    (hi : fh_kq S i ci = true) (hc : ∃ T N, vwCl[ci]? = some (y.cls, T, N) ∧ ci < 13) (hn : As.length = n) (hsz : ls.size = nL) (hrm : d + 21 ≤ R.frames ∧ mL + (60 * d + 619) ≤ R.locals) (hst : st0 = As.reverse ++ .ref (g.2.2 i) :: rest) (hW : (rest.map fun v => v.category).sum ≤ 8) (hcap : cells ≤ R.cells ∧ slots ≤ R.slots) (hs1 : v.toList ++ rest = st1) (hdg : decode cc pc = .ok (.invokevirtual idx, 3))
    (kk : ∀ (H1 : Heap) (locs1 : List Loc), fh_R S g s.heap h' H1 locs1 → W p l e R s m args below meth c H1 locs1 cells slots Q (F0 m (pc + 3) ls st1)) : W p l e R s m args below meth c H locs cells slots Q (F0 m pc ls st0) :=
  fr_callV C hR hM Y YV lk hi hc hn hsz hrm hst hW hcap hdg (by rw [hs1]; exact kk)
theorem fq_callS {y : MethodName} {bc : ByteArray} {mL n d idx : Nat} {ret : Option FieldType} {As : List Value} (C : fh_C p m c cc nL s args own S g) (hR : fh_R S g s.heap h H locs) (hM : fh_M l y bc mL ret (fh_rm d) S g As h v h') (Y : fh_Y y bc mL ret n) (YS : Cond.static y ∈ fh_U) (lk : Cond.methodLink own idx y ∈ fh_U)
    (hn : As.length = n) (hsz : ls.size = nL) (hrm : d + 21 ≤ R.frames ∧ mL + (60 * d + 619) ≤ R.locals) (hst : st0 = As.reverse ++ rest) (hW : (rest.map fun v => v.category).sum ≤ 8) (hcap : cells ≤ R.cells ∧ slots ≤ R.slots) (hs1 : v.toList ++ rest = st1) (hdg : decode cc pc = .ok (.invokestatic idx, 3))
    (kk : ∀ (H1 : Heap) (locs1 : List Loc), fh_R S g s.heap h' H1 locs1 → W p l e R s m args below meth c H1 locs1 cells slots Q (F0 m (pc + 3) ls st1)) : W p l e R s m args below meth c H locs cells slots Q (F0 m pc ls st0) :=
  fr_callS C hR hM Y YS lk hn hsz hrm hst hW hcap hdg (by rw [hs1]; exact kk)
theorem fq_callSN {y : MethodName} {host : String} {bc : ByteArray} {mL n d idx : Nat} {ret : Option FieldType} {As : List Value} (C : fh_C p m c cc nL s args own S g) (hR : fh_R S g s.heap h H locs) (hM : fh_M l y bc mL ret (fh_rm d) S g As h v h') (Y : fh_Y y bc mL ret n) (YS : Cond.static y ∈ fh_U) (lk : va_Nw (.methodLinkNest own idx y host) s)
    (hn : As.length = n) (hsz : ls.size = nL) (hrm : d + 21 ≤ R.frames ∧ mL + (60 * d + 619) ≤ R.locals) (hst : st0 = As.reverse ++ rest) (hW : (rest.map fun v => v.category).sum ≤ 8) (hcap : cells ≤ R.cells ∧ slots ≤ R.slots) (hs1 : v.toList ++ rest = st1) (hdg : decode cc pc = .ok (.invokestatic idx, 3))
    (kk : ∀ (H1 : Heap) (locs1 : List Loc), fh_R S g s.heap h' H1 locs1 → W p l e R s m args below meth c H1 locs1 cells slots Q (F0 m (pc + 3) ls st1)) : W p l e R s m args below meth c H locs cells slots Q (F0 m pc ls st0) :=
  fr_callSN C hR hM Y YS lk hn hsz hrm hst hW hcap hdg (by rw [hs1]; exact kk)
end FHQ
abbrev fh_Wk (p : Program) (l : Launch) (e : Env) (d : Nat) (s : State) (m : MethodId) (av : List Value) (below : List Frame) (meth : Method) (c : Code) (S : fh_S) (g : fh_G) (v : Option Value) (h : fh_H) (H : Heap) (locs : List Loc) (f : JFrame) : Prop :=
  W p l e (fh_rm d) s m av.toArray below meth c H locs 0 0 (MQ below (fh_Q S g s.heap.size v h) av.toArray s 0 0 (fh_A S g s.heap.size)) f
def fh_let {α β : Type} (a : α) (f : α → β) : β := f a
theorem fr_let {α β : Type} {a x : α} {f : α → Option β} {o : β} (ex : x = a) (h : fh_let a f = some o) : f x = some o := by subst ex; exact h
theorem fr_nnN {α : Type} {f : Option α} {k : Nat → Option α} {x : α} (h : fh_nn none f k = some x) : f = some x := h
theorem fr_nnS {α : Type} {f : Option α} {k : Nat → Option α} {x : α} {j : Nat} (h : fh_nn (some j) f k = some x) : k j = some x := h
/-- a number that is none of lo, .., lo + n - 1 lies outside -/
theorem fr_tout {x : Int32} (lo n : Nat) (h : ∀ j, j < n → ¬ x = Int32.ofNat (lo + j)) (hs : lo + n < 2 ^ 31) (h0 : 0 < n) : x.toInt < (lo : Int) ∨ ((lo + (n - 1) : Nat) : Int) < x.toInt := by
  rcases Int.lt_or_le x.toInt (lo : Int) with q | q
  · exact Or.inl q
  · rcases Int.lt_or_le ((lo + (n - 1) : Nat) : Int) x.toInt with z | z
    · exact Or.inr z
    · exfalso
      have hx : ¬ x < 0 := by rw [Int32.lt_iff_toInt_lt, Int32.toInt_zero]; omega
      obtain ⟨k, hk, rfl⟩ := nI_of hx
      rw [nI_toInt hk] at q z
      have e : k = lo + (k - lo) := by omega
      exact h (k - lo) (by omega) (by rw [← e]; rfl)
theorem fh_ofWF {l : Launch} {y : MethodName} {ws ws' : List Cond} {rm : Room} {Pc : Array Value → State → Prop} {Qc : Array Value → State → Outcome → State → Prop} {mc ms : Nat} {free : Addr → Prop} {cc : ByteArray} {maxL : Nat} {ret : Option FieldType}
    (hy : plainFor y = true) (hw : ws = Cond.code y cc maxL ret :: ws')
    (body : ∀ p e s m args below meth c s₁, BodyLoose p l y (headSpec ws rm) cc maxL ret e s m args below meth c s₁ → c.maxLocals = maxL → Pc args s →
      W p l e (headSpec ws rm).room s m args below meth c s.heap [] 0 0 (MQ below Qc args s mc ms free) (entryFrame m args maxL)) : Met l y ws rm Pc Qc mc ms free := by
  refine MetFree.of_bodySF (code := cc) (maxLocals := maxL) (ret := ret) hy ?_ ?_
  · intro args s m h hn
    obtain ⟨meth, c, h1, h2, h3, h4, h5, h6, -, -⟩ := Cond.code_spec hn (atoms_spec (ws := ws) h _ (by rw [hw]; exact List.mem_cons_self))
    exact ⟨meth, c, h1, h2, h3, h4, h5, h6⟩
  · intro p e s m args below meth c s₁ B hml hP _
    have hh0 : s₁.heap = s.heap := by rw [B.state]; rfl
    obtain ⟨t, a1, o, b1, b2, b3⟩ := body p e s m args below meth c s₁ B hml hP s₁ hh0 (Stand.of_body B)
    exact ⟨t, o, a1, b1, b2, ⟨b3.1, b3.2⟩⟩
theorem fr_headF {l : Launch} {y : MethodName} {cc : ByteArray} {nL : Nat} {ret : Option FieldType} {rm : Room} {S : fh_S} {g : fh_G} {av : List Value} {h h' : fh_H} {v : Option Value} {own : String} (hy : plainFor y = true) (hyc : y.cls = own) (hj : fh_inj S g) (hnl : (lg_sl av).length ≤ nL)
    (body : ∀ (p : Program) (e : Env) (s : State) (m : MethodId) (below : List Frame) (meth : Method) (c : Code) (ls : Array Slot), fh_C p m c cc nL s av.toArray own S g → meth.sig.returnType = ret → meth.locks = false → fh_R S g s.heap h s.heap [] → lv_has ls nL (lv_args 0 av) →
      W p l e rm s m av.toArray below meth c s.heap [] 0 0 (MQ below (fh_Q S g s.heap.size v h') av.toArray s 0 0 (fh_A S g s.heap.size)) (F0 m 0 ls [])) : fh_M l y cc nL ret rm S g av h v h' := by
  intro sz
  refine fh_ofWF (cc := cc) (maxL := nL) (ret := ret) hy rfl ?_
  intro p e s m args below meth c s₁ B hml hv
  obtain ⟨rfl, hsz, hP, hK⟩ := hv
  subst hsz
  have hts := atoms_spec (ws := .code y cc nL ret :: fh_U) B.pre
  have hown : s.vm.findClass own = some m.cls := hyc ▸ findClass_of_methodNamed B.named
  rw [lg_entry_eq]
  exact body p e s m below meth c _ ⟨⟨B.exec, B.bytes, hml, hown, fun w hw => hts w (List.mem_cons_of_mem _ hw)⟩, hK, hj⟩ B.returns B.notSynchronized ⟨hP, va_S.rf⟩ (lv_entry av hnl)
