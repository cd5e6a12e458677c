/-! calls with the stack behind them spelled out; words of the functions -/
section FHQ
variable {p : Program} {l : Launch} {e : Env} {R : Room} {s : State} {m : MethodId} {args : Array Value} {below : List Frame} {meth : Method} {c : Code} {H : Heap} {locs : List Loc} {cells slots : Nat} {Q : State → Prop}
variable {cc : ByteArray} {pc nL : Nat} {ls : Array Slot} {rest st0 st1 : List Value} {own : String} {S : fh_S} {g : fh_G} {h h' : fh_H} {v : Option Value}
theorem fq_callV {y : MethodName} {bc : ByteArray} {mL n d idx ci i : Nat} {ret : Option FieldType} {As : List Value} (C : fh_C p m c cc nL s args own S g) (hR : fh_R S g s.heap h H locs) (hM : fh_M l y bc mL ret (fh_rm d) S g (.ref (g.2.2 i) :: As) h v h') (Y : fh_Y y bc mL ret n) (YV : fh_YV y) (lk : Cond.methodLink own idx y ∈ fh_U)
    (hi : fh_kq S i ci = true) (hc : ∃ T N, vwCl[ci]? = some (y.cls, T, N) ∧ ci < 13) (hn : As.length = n) (hsz : ls.size = nL) (hrm : d + 21 ≤ R.frames ∧ mL + (60 * d + 619) ≤ R.locals) (hst : st0 = As.reverse ++ .ref (g.2.2 i) :: rest) (hW : (rest.map fun v => v.category).sum ≤ 8) (hcap : cells ≤ R.cells ∧ slots ≤ R.slots) (hs1 : v.toList ++ rest = st1) (hdg : decode cc pc = .ok (.invokevirtual idx, 3))
    (kk : ∀ (H1 : Heap) (locs1 : List Loc), fh_R S g s.heap h' H1 locs1 → W p l e R s m args below meth c H1 locs1 cells slots Q (F0 m (pc + 3) ls st1)) : W p l e R s m args below meth c H locs cells slots Q (F0 m pc ls st0) :=
  fr_callV C hR hM Y YV lk hi hc hn hsz hrm hst hW hcap hdg (by rw [hs1]; exact kk)
theorem fq_callS {y : MethodName} {bc : ByteArray} {mL n d idx : Nat} {ret : Option FieldType} {As : List Value} (C : fh_C p m c cc nL s args own S g) (hR : fh_R S g s.heap h H locs) (hM : fh_M l y bc mL ret (fh_rm d) S g As h v h') (Y : fh_Y y bc mL ret n) (YS : Cond.static y ∈ fh_U) (lk : Cond.methodLink own idx y ∈ fh_U)
    (hn : As.length = n) (hsz : ls.size = nL) (hrm : d + 21 ≤ R.frames ∧ mL + (60 * d + 619) ≤ R.locals) (hst : st0 = As.reverse ++ rest) (hW : (rest.map fun v => v.category).sum ≤ 8) (hcap : cells ≤ R.cells ∧ slots ≤ R.slots) (hs1 : v.toList ++ rest = st1) (hdg : decode cc pc = .ok (.invokestatic idx, 3))
    (kk : ∀ (H1 : Heap) (locs1 : List Loc), fh_R S g s.heap h' H1 locs1 → W p l e R s m args below meth c H1 locs1 cells slots Q (F0 m (pc + 3) ls st1)) : W p l e R s m args below meth c H locs cells slots Q (F0 m pc ls st0) :=
  fr_callS C hR hM Y YS lk hn hsz hrm hst hW hcap hdg (by rw [hs1]; exact kk)
theorem fq_callSN {y : MethodName} {host : String} {bc : ByteArray} {mL n d idx : Nat} {ret : Option FieldType} {As : List Value} (C : fh_C p m c cc nL s args own S g) (hR : fh_R S g s.heap h H locs) (hM : fh_M l y bc mL ret (fh_rm d) S g As h v h') (Y : fh_Y y bc mL ret n) (YS : Cond.static y ∈ fh_U) (lk : va_Nw (.methodLinkNest own idx y host) s)
    (hn : As.length = n) (hsz : ls.size = nL) (hrm : d + 21 ≤ R.frames ∧ mL + (60 * d + 619) ≤ R.locals) (hst : st0 = As.reverse ++ rest) (hW : (rest.map fun v => v.category).sum ≤ 8) (hcap : cells ≤ R.cells ∧ slots ≤ R.slots) (hs1 : v.toList ++ rest = st1) (hdg : decode cc pc = .ok (.invokestatic idx, 3))
    (kk : ∀ (H1 : Heap) (locs1 : List Loc), fh_R S g s.heap h' H1 locs1 → W p l e R s m args below meth c H1 locs1 cells slots Q (F0 m (pc + 3) ls st1)) : W p l e R s m args below meth c H locs cells slots Q (F0 m pc ls st0) :=
  fr_callSN C hR hM Y YS lk hn hsz hrm hst hW hcap hdg (by rw [hs1]; exact kk)
end FHQ
abbrev fh_Wk (p : Program) (l : Launch) (e : Env) (d : Nat) (s : State) (m : MethodId) (av : List Value) (below : List Frame) (meth : Method) (c : Code) (S : fh_S) (g : fh_G) (v : Option Value) (h : fh_H) (H : Heap) (locs : List Loc) (f : JFrame) : Prop :=
  W p l e (fh_rm d) s m av.toArray below meth c H locs 0 0 (MQ below (fh_Q S g s.heap.size v h) av.toArray s 0 0 (fh_A S g s.heap.size)) f
def fh_let {α β : Type} (a : α) (f : α → β) : β := f a
theorem fr_let {α β : Type} {a x : α} {f : α → Option β} {o : β} (ex : x = a) (h : fh_let a f = some o) : f x = some o := by subst ex; exact h
theorem fr_nnN {α : Type} {f : Option α} {k : Nat → Option α} {x : α} (h : fh_nn none f k = some x) : f = some x := h
theorem fr_nnS {α : Type} {f : Option α} {k : Nat → Option α} {x : α} {j : Nat} (h : fh_nn (some j) f k = some x) : k j = some x := h
/-- a number that is none of lo, .., lo + n - 1 lies outside -/
theorem fr_tout {x : Int32} (lo n : Nat) (h : ∀ j, j < n → ¬ x = Int32.ofNat (lo + j)) (hs : lo + n < 2 ^ 31) (h0 : 0 < n) : x.toInt < (lo : Int) ∨ ((lo + (n - 1) : Nat) : Int) < x.toInt := by
  rcases Int.lt_or_le x.toInt (lo : Int) with q | q
  · exact Or.inl q
  · rcases Int.lt_or_le ((lo + (n - 1) : Nat) : Int) x.toInt with z | z
    · exact Or.inr z
    · exfalso
      have hx : ¬ x < 0 := by rw [Int32.lt_iff_toInt_lt, Int32.toInt_zero]; omega
      obtain ⟨k, hk, rfl⟩ := nI_of hx
      rw [nI_toInt hk] at q z
      have e : k = lo + (k - lo) := by omega
      exact h (k - lo) (by omega) (by rw [← e]; rfl)
