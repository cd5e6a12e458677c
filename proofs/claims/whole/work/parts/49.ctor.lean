/-! CONSTRUCTORS: the flat heap grows; an address comes with each number -/
def fh_push (S : fh_S) (k len : Nat) : fh_S := (S.1 + 1, va_up S.2.1 S.1 k, va_up S.2.2 S.1 len)
def fh_z (h : fh_H) (n : Nat) : fh_H := (fun b j => if b = n then 0 else h.1 b j, fun b j => if b = n then 0 else h.2.1 b j, fun b j => if b = n then none else h.2.2 b j)
def fh_ok (S : fh_S) (h : fh_H) : Prop := ∀ i k j, h.2.2 i k = some j → j < S.1
theorem fh_kq_push {S : fh_S} {i c k len : Nat} (h : fh_kq S i c = true) : fh_kq (fh_push S k len) i c = true := by
  have h1 := fh_kq_lt h
  have h2 := fh_kq_k h
  simp only [fh_kq, Bool.and_eq_true, decide_eq_true_eq]
  refine ⟨by show i < S.1 + 1; omega, ?_⟩
  show va_up S.2.1 S.1 k i = c
  rw [va_up_ne _ _ (by omega)]; exact h2
theorem fh_kq_new (S : fh_S) (k len : Nat) : fh_kq (fh_push S k len) S.1 k = true := by
  simp [fh_kq, fh_push, va_up]
theorem fh_ok_push {S : fh_S} {h : fh_H} (k len : Nat) (hok : fh_ok S h) : fh_ok (fh_push S k len) (fh_z h S.1) := by
  intro i q j hj
  simp only [fh_z] at hj
  by_cases hi : i = S.1
  · simp [hi] at hj
  · rw [if_neg hi] at hj
    have := hok i q j hj
    show j < S.1 + 1
    omega
theorem fh_ok_sR {S : fh_S} {h : fh_H} {i k j : Nat} (hok : fh_ok S h) (hj : j < S.1) : fh_ok S (fh_sR h i k (some j)) := by
  intro a b q hq
  simp only [fh_sR, fh_up] at hq
  by_cases hc : a = i ∧ b = k
  · rw [if_pos hc] at hq; cases hq; exact hj
  · rw [if_neg hc] at hq; exact hok a b q hq
/-- of the numbers that were there before, and those that came -/
def fn_rel (S0 : fh_S) (g0 : fh_G) (S : fh_S) (g : fh_G) (sz : Nat) : Prop := S0.1 ≤ S.1 ∧ g.1 = g0.1 ∧ g.2.1 = g0.2.1 ∧ (∀ i, i < S0.1 → g.2.2 i = g0.2.2 i) ∧ ∀ i, S0.1 ≤ i → i < S.1 → sz ≤ g.2.2 i
theorem fn_rel.rf {S : fh_S} {g : fh_G} {sz : Nat} : fn_rel S g S g sz := ⟨Nat.le_refl _, rfl, rfl, fun _ _ => rfl, fun i h1 h2 => absurd h2 (by omega)⟩
theorem fn_rel.trans {S0 S1 S2 : fh_S} {g0 g1 g2 : fh_G} {sz sz' : Nat} (h : fn_rel S0 g0 S1 g1 sz) (h' : fn_rel S1 g1 S2 g2 sz') (hs : sz ≤ sz') : fn_rel S0 g0 S2 g2 sz :=
  ⟨Nat.le_trans h.1 h'.1, h'.2.1.trans h.2.1, h'.2.2.1.trans h.2.2.1, fun i hi => (h'.2.2.2.1 i (Nat.lt_of_lt_of_le hi h.1)).trans (h.2.2.2.1 i hi), fun i h1 h2 => by
    rcases Nat.lt_or_ge i S1.1 with q | q
    · rw [h'.2.2.2.1 i q]; exact h.2.2.2.2 i h1 q
    · exact Nat.le_trans hs (h'.2.2.2.2 i q h2)⟩
theorem fn_e {S S' : fh_S} {g g' : fh_G} {h h' : fh_H} {i : Nat} (e1 : S'.2.1 i = S.2.1 i) (e2 : S'.2.2 i = S.2.2 i) (e3 : g'.2.1 = g.2.1) (a : h'.1 i = h.1 i) (b : h'.2.1 i = h.2.1 i) (d : ∀ k, (h'.2.2 i k).map g'.2.2 = (h.2.2 i k).map g.2.2) : fh_e S' g' h' i = fh_e S g h i := by
  have d' : (fun k => (h'.2.2 i k).map g'.2.2) = fun k => (h.2.2 i k).map g.2.2 := funext d
  have e : ∀ ci, fh_v g' h' ci i = fh_v g h ci i := fun ci => by
    funext k
    simp only [fh_v, a, b, d]
  simp only [fh_e, e1, e2, e3, a, b, d', e]
theorem fn_w {S : fh_S} {g : fh_G} {h : fh_H} (hok : fh_ok S h) (k len q : Nat) : fh_w (fh_push S k len) (g.1, g.2.1, va_up g.2.2 S.1 q) (fh_z h S.1) = fh_w S g h ++ [(q, fh_e (fh_push S k len) (g.1, g.2.1, va_up g.2.2 S.1 q) (fh_z h S.1) S.1)] := by
  unfold fh_w
  rw [show (fh_push S k len).1 = S.1 + 1 from rfl, List.range_succ, List.map_append]
  congr 1
  · apply List.map_congr_left
    intro i hi
    have hi : i < S.1 := List.mem_range.mp hi
    have hn : i ≠ S.1 := by omega
    show (va_up g.2.2 S.1 q i, _) = _
    rw [va_up_ne _ _ hn, fn_e (S := S) (S' := fh_push S k len) (g := g) (g' := (g.1, g.2.1, va_up g.2.2 S.1 q)) (h := h) (h' := fh_z h S.1) (va_up_ne _ _ hn) (va_up_ne _ _ hn) rfl (by funext j; simp [fh_z, hn]) (by funext j; simp [fh_z, hn]) (fun j => ?_)]
    show ((if i = S.1 then none else h.2.2 i j).map (va_up g.2.2 S.1 q)) = _
    rw [if_neg hn]
    cases hr : h.2.2 i j with
    | none => rfl
    | some r =>
      have := hok i j r hr
      show some (va_up g.2.2 S.1 q r) = some (g.2.2 r)
      rw [va_up_ne _ _ (by omega)]
  · show [(va_up g.2.2 S.1 q S.1, _)] = _
    rw [va_up_self]
/-- nest links of the constructors -/
def fc_N (U : State) : Prop := va_Nw (.methodLinkNest RX11 31 yX5_init RX11) U ∧ va_Nw (.methodLinkNest RX11 38 yX9_init RX11) U ∧ va_Nw (.methodLinkNest RX11 45 yX2_init RX11) U ∧ va_Nw (.methodLinkNest RX11 52 yX10_init RX11) U ∧ va_Nw (.methodLinkNest RX11 75 yX8_init RX11) U ∧ va_Nw (.methodLinkNest RX1 23 yX3_init RX11) U ∧ va_Nw (.methodLinkNest RX5 11 yX0_init RX11) U ∧ va_Nw (.methodLinkNest RX6 23 yX3_init RX11) U ∧ va_AO "TermRows$Row" U ∧ va_AO "TermRows$Made" U
theorem fc_N.warm {s U : State} (hW : s.WarmedH U.vm) (h : fc_N s) : fc_N U := by
  obtain ⟨a0, a1, a2, a3, a4, a5, a6, a7, a8, a9⟩ := h
  exact ⟨a0.warmM hW, a1.warmM hW, a2.warmM hW, a3.warmM hW, a4.warmM hW, a5.warmM hW, a6.warmM hW, a7.warmM hW, a8.moved hW.alike, a9.moved hW.alike⟩
theorem fc_N.call {U : State} {f : JFrame} {mk : MethodId} {a : Array Value} (h : fc_N U) : fc_N (U.calling f mk a) := by
  have hv : U.vm.Alike (U.calling f mk a).vm := Vm.Alike.refl U.vm
  obtain ⟨a0, a1, a2, a3, a4, a5, a6, a7, a8, a9⟩ := h
  exact ⟨a0.same rfl rfl, a1.same rfl rfl, a2.same rfl rfl, a3.same rfl rfl, a4.same rfl rfl, a5.same rfl rfl, a6.same rfl rfl, a7.same rfl rfl, a8.moved hv, a9.moved hv⟩
def fc_P (S : fh_S) (g : fh_G) (av : List Value) (sz : Nat) (h : fh_H) : Array Value → State → Prop := va_Pc av (fun U => U.heap.size = sz ∧ va_P g.1 vwCl (fh_w S g h) U.heap ∧ fh_K g U ∧ fc_N U)
theorem fc_blind (S : fh_S) (g : fh_G) (av : List Value) (sz : Nat) (h : fh_H) : FrameBlind (fc_P S g av sz h) := fun _ _ _ _ q => ⟨q.1, q.2.1, q.2.2.1, q.2.2.2.1.call, q.2.2.2.2.call⟩
def fc_Q (S : fh_S) (g : fh_G) (sz : Nat) (S' : fh_S) (h' : fh_H) : Array Value → State → Outcome → State → Prop := fun _ st oc t => oc = .returned none ∧ ∃ g' : fh_G, fn_rel S g S' g' sz ∧ fh_inj S' g' ∧ fh_ok S' h' ∧ va_P g'.1 vwCl (fh_w S' g' h') t.heap ∧ va_F (fh_A S g sz) st t
def fc_rm (d k n : Nat) : Room := { frames := d + 20, cells := k, slots := n, locals := 60 * d + 600 }
def fc_M (l : Launch) (y : MethodName) (cc : ByteArray) (nL d k n : Nat) (S : fh_S) (g : fh_G) (av : List Value) (h : fh_H) (S' : fh_S) (h' : fh_H) : Prop :=
  ∀ sz, Met l y (.code y cc nL none :: fh_U) (fc_rm d k n) (fc_P S g av sz h) (fc_Q S g sz S' h') k n (fh_A S g sz)
theorem fc_head {l : Launch} {y : MethodName} {cc : ByteArray} {nL d k n : Nat} {S S' : fh_S} {g : fh_G} {av : List Value} {h h' : fh_H} {own : String} (hy : plainName y.cls = true) (hyc : y.cls = own) (hyn : y.name = "<init>") (hj : fh_inj S g) (hnl : (lg_sl av).length ≤ nL)
    (body : ∀ (p : Program) (e : Env) (s : State) (m : MethodId) (below : List Frame) (meth : Method) (c : Code) (ls : Array Slot), fh_C p m c cc nL s av.toArray own S g → fc_N s → meth.name = "<init>" → meth.sig.returnType = none → meth.locks = false → fh_R S g s.heap h s.heap [] → lv_has ls nL (lv_args 0 av) →
      W p l e (fc_rm d k n) s m av.toArray below meth c s.heap [] 0 0 (MQ below (fc_Q S g s.heap.size S' h') av.toArray s k n (fh_A S g s.heap.size)) (F0 m 0 ls [])) : fc_M l y cc nL d k n S g av h S' h' := by
  intro sz
  refine Met.ofW (cc := cc) (maxL := nL) (ret := none) hy rfl ?_
  intro p e s m args below meth c s₁ B hml hv
  obtain ⟨rfl, hsz, hP, hK, hN⟩ := hv
  subst hsz
  have hts := atoms_spec (ws := .code y cc nL none :: fh_U) B.pre
  have hown : s.vm.findClass own = some m.cls := hyc ▸ findClass_of_methodNamed B.named
  rw [lg_entry_eq]
  exact body p e s m below meth c _ ⟨⟨B.exec, B.bytes, hml, hown, fun w hw => hts w (List.mem_cons_of_mem _ hw)⟩, hK, hj⟩ hN ((name_of_methodNamed B.named B.method).1.trans hyn) B.returns B.notSynchronized ⟨hP, va_S.rf⟩ (lv_entry av hnl)
section FN
variable {p : Program} {l : Launch} {e : Env} {R : Room} {s : State} {m : MethodId} {args : Array Value} {below : List Frame} {meth : Method} {c : Code} {H : Heap} {locs : List Loc} {cells slots : Nat} {Q : State → Prop}
variable {cc : ByteArray} {pc nL : Nat} {ls : Array Slot} {rest st0 : List Value} {own : String} {S S' : fh_S} {g : fh_G} {h h' : fh_H}
theorem fn_grow {k len q : Nat} {H1 : Heap} {en : va_E} (hok : fh_ok S h) (C : fh_C p m c cc nL s args own S g) (hS : va_S (fh_A S g s.heap.size) s.heap H1 locs) (hP1 : va_P g.1 vwCl (fh_w S g h ++ [(q, en)]) H1) (hD1 : va_D (fh_A S g s.heap.size) (fh_w S g h ++ [(q, en)])) (hen : en = fh_e (fh_push S k len) (g.1, g.2.1, va_up g.2.2 S.1 q) (fh_z h S.1) S.1) :
    fh_C p m c cc nL s args own (fh_push S k len) (g.1, g.2.1, va_up g.2.2 S.1 q) ∧ fh_R (fh_push S k len) (g.1, g.2.1, va_up g.2.2 S.1 q) s.heap (fh_z h S.1) H1 locs ∧ fn_rel S g (fh_push S k len) (g.1, g.2.1, va_up g.2.2 S.1 q) s.heap.size := by
  have hx : (fh_w S g h ++ [(q, en)])[(fh_w S g h).length]? = some (q, en) := by simp
  have hl : (fh_w S g h).length = S.1 := by simp [fh_w]
  have hq : s.heap.size ≤ q := by
    rcases hD1.2 _ _ hx with ⟨i, hi, he⟩ | z
    · exfalso
      have hi' : (fh_w S g h ++ [(q, en)])[i]? = some (g.2.2 i, fh_e S g h i) := by
        rw [List.getElem?_append_left (by rw [hl]; exact hi)]
        exact fh_w_at S g h hi
      have := hD1.1 i _ _ _ hi' hx he.symm
      omega
    · exact z
  subst hen
  rw [← fn_w hok] at hP1 hD1
  have hrel : fn_rel S g (fh_push S k len) (g.1, g.2.1, va_up g.2.2 S.1 q) s.heap.size := ⟨by show S.1 ≤ S.1 + 1; omega, rfl, rfl, fun i hi => va_up_ne _ _ (by omega), fun i h1 h2 => by
    have h2 : i < S.1 + 1 := h2
    rw [show i = S.1 by omega]; show s.heap.size ≤ va_up g.2.2 S.1 q S.1; rw [va_up_self]; exact hq⟩
  refine ⟨⟨C.1, C.2.1, fun i j hi hj he => ?_⟩, ⟨hP1, hS.1, fun x a b => hS.2.1 x a (fun z => b ?_), fun x hx => ?_⟩, hrel⟩
  · exact hD1.1 i j _ _ (fh_w_at _ _ _ hi) (fh_w_at _ _ _ hj) he
  · rcases z with ⟨i, hi, rfl⟩ | z
    · exact Or.inl ⟨i, Nat.lt_of_lt_of_le hi hrel.1, (hrel.2.2.2.1 i hi).symm⟩
    · exact Or.inr z
  · rcases hS.2.2 x hx with ⟨i, hi, hx⟩ | z
    · exact Or.inl ⟨i, Nat.lt_of_lt_of_le hi hrel.1, by rw [hx]; exact (hrel.2.2.2.1 i hi).symm⟩
    · exact Or.inr z
theorem fn_A (q : Nat) (h : s.heap.size ≤ q) : fh_A S g s.heap.size q := Or.inr h
/-- a class that can be made here -/
def fn_K (own : String) (idx ci : Nat) : Prop := ∃ (C : String) (T : u_T) (N : Nat) (t0 : Nat → FieldType), vwCl[ci]? = some (C, T, N) ∧ (∀ w ∈ u_ws C T N, w ∈ fh_U) ∧ (∀ k, k < N → parseFieldDescriptor (T k).2.2.1 = some (t0 k)) ∧ Cond.classLink own idx C ∈ fh_U ∧ Cond.instantiable C N ∈ fh_U ∧ Cond.initialized C ∈ fh_U ∧ N = fh_nf ci ∧ ci < 13 ∧
  ∀ j, j < N → defaultValue (t0 j) = (match fh_s ci j with | 0 => Value.int 0 | 1 => Value.long 0 | _ => Value.null)
theorem fn_new {idx ci N : Nat} (C : fh_C p m c cc nL s args own S g) (hR : fh_R S g s.heap h H locs) (hok : fh_ok S h) (F : fn_K own idx ci) (hN : fh_nf ci = N) (hcells : cells + 1 ≤ R.cells) (hslots : slots + N ≤ R.slots) (hdg : decode cc pc = .ok (.new idx, 3))
    (kk : ∀ (S' : fh_S) (h' : fh_H) (g' : fh_G) (H1 : Heap), S' = fh_push S ci 0 → h' = fh_z h S.1 → fn_rel S g S' g' s.heap.size → fh_C p m c cc nL s args own S' g' → fh_R S' g' s.heap h' H1 locs → fh_ok S' h' → fh_kq S' S.1 ci = true → W p l e R s m args below meth c H1 locs (cells + 1) (slots + N) Q (F0 m (pc + 3) ls (.ref (g'.2.2 S.1) :: rest))) : W p l e R s m args below meth c H locs cells slots Q (F0 m pc ls rest) := by
  obtain ⟨Cn, T, N', t0, h1, h2, h3, h4, h5, h6, h7, h8, h9⟩ := F
  subst hN h7
  obtain ⟨⟨hx, hb, hml, hown, hts⟩, ⟨hK, hNn⟩, hj⟩ := id C
  refine va_new (ci := ci) (fs := (List.range (fh_nf ci)).map (fun j => match fh_s ci j with | 0 => Value.int 0 | 1 => Value.long 0 | _ => Value.null)) hx hb hts h2 t0 h3 hown (hts _ h4) (hts _ h5) (hts _ h6) hK hR.1 (fh_D hj h _) hR.2 (fun q h => Or.inr h) h1 (fun j hj => ?_) hcells hslots hdg (fun q H1 hP1 hD1 hS1 => ?_)
  · rw [h9 j hj]
    simp only [vp_V, List.getD_eq_getElem?_getD]
    simp [hj]
  · have hen : (Sum.inr (ci, (List.range (fh_nf ci)).map (fun j => match fh_s ci j with | 0 => Value.int 0 | 1 => Value.long 0 | _ => Value.null)) : va_E) = fh_e (fh_push S ci 0) (g.1, g.2.1, va_up g.2.2 S.1 q) (fh_z h S.1) S.1 := by
      rw [fh_e_ob _ _ (show (fh_push S ci 0).2.1 S.1 = ci from va_up_self _ _ _) h8]
      congr 2
      apply List.map_congr_left
      intro j _
      simp only [fh_v, fh_z]
      split <;> simp_all [va_rf]
    obtain ⟨k1, k2, k3⟩ := fn_grow hok C hS1 hP1 hD1 hen
    have := kk _ _ _ H1 rfl rfl k3 k1 k2 (fh_ok_push ci 0 hok) (fh_kq_new S ci 0)
    rw [show (g.1, g.2.1, va_up g.2.2 S.1 q).2.2 S.1 = q from va_up_self _ _ _] at this
    exact this
end FN
