/-! THE LAW: two flat heaps side by side, the class's (with 'out') and the reference's -/
theorem fl_sub {D : va_G} {cl : List vw_C} {A : Nat → Prop} {w1 w2 : va_W} {x : Nat × va_E} {H1 : Heap} (hP : va_P D cl ((w1 ++ w2) ++ [x]) H1) (hD : va_D A ((w1 ++ w2) ++ [x])) :
    va_P D cl (w1 ++ [x]) H1 ∧ va_P D cl w2 H1 ∧ va_D A (w1 ++ [x]) ∧ ∀ (j : Nat) (y : Nat × va_E), w2[j]? = some y → y.1 ≠ x.1 := by
  have f1 : ∀ k, k < w1.length → ((w1 ++ w2) ++ [x])[k]? = (w1 ++ [x])[k]? := fun k hk => by
    rw [List.getElem?_append_left (by simp; omega), List.getElem?_append_left hk, List.getElem?_append_left hk]
  have f2 : ((w1 ++ w2) ++ [x])[w1.length + w2.length]? = some x := by
    rw [List.getElem?_append_right (by simp)]; simp
  have f3 : ∀ j, j < w2.length → ((w1 ++ w2) ++ [x])[w1.length + j]? = w2[j]? := fun j hj => by
    rw [List.getElem?_append_left (by simp; omega), List.getElem?_append_right (by omega)]; congr 1; omega
  have g : ∀ k q, (w1 ++ [x])[k]? = some q → (k < w1.length ∧ ((w1 ++ w2) ++ [x])[k]? = some q) ∨ (k = w1.length ∧ q = x) := fun k q hq => by
    by_cases hk : k < w1.length
    · exact Or.inl ⟨hk, by rw [f1 k hk]; exact hq⟩
    · have hk' : k < (w1 ++ [x]).length := (List.getElem?_eq_some_iff.mp hq).1
      have : k = w1.length := by simp at hk'; omega
      subst this
      refine Or.inr ⟨rfl, ?_⟩
      rw [List.getElem?_append_right (Nat.le_refl _)] at hq
      simpa using hq.symm
  refine ⟨fun k q hq => ?_, fun k q hq => ?_, ⟨fun i j p q hi hj he => ?_, fun k q hq => ?_⟩, fun j y hy he => ?_⟩
  · rcases g k q hq with ⟨-, h⟩ | ⟨-, rfl⟩
    · exact hP _ _ h
    · exact hP _ _ f2
  · exact hP _ _ (by rw [f3 k (List.getElem?_eq_some_iff.mp hq).1]; exact hq)
  · rcases g i p hi with ⟨a1, a2⟩ | ⟨a1, rfl⟩ <;> rcases g j q hj with ⟨b1, b2⟩ | ⟨b1, rfl⟩
    · exact hD.1 i j p q a2 b2 he
    · have := hD.1 i _ p _ a2 f2 he; omega
    · have := hD.1 _ j _ q f2 b2 he; omega
    · omega
  · rcases g k q hq with ⟨-, h⟩ | ⟨-, rfl⟩
    · exact hD.2 _ _ h
    · exact hD.2 _ _ f2
  · have hl := (List.getElem?_eq_some_iff.mp hy).1
    have := hD.1 _ _ y x (by rw [f3 j hl]; exact hy) f2 he
    omega
def fl_ap (S : fh_S) (g : fh_G) (S2 : fh_S) (g2 : fh_G) : Prop := ∀ i j, i < S.1 → j < S2.1 → g.2.2 i ≠ g2.2.2 j
def fl_J (s : State) (S : fh_S) (g : fh_G) (h : fh_H) (S2 : fh_S) (g2 : fh_G) (h2 : fh_H) (H : Heap) (locs : List Loc) : Prop :=
  va_P g.1 vwCl (fh_w S g h) H ∧ va_P g2.1 vwCl (fh_w S2 g2 h2) H ∧ fl_ap S g S2 g2 ∧ (∀ i, i < S.1 → s.heap.size ≤ g.2.2 i) ∧ (∀ i, i < S2.1 → s.heap.size ≤ g2.2.2 i) ∧ va_S (fun q => s.heap.size ≤ q) s.heap H locs
theorem fl_J.swap {s : State} {S S2 : fh_S} {g g2 : fh_G} {h h2 : fh_H} {H : Heap} {locs : List Loc} (J : fl_J s S g h S2 g2 h2 H locs) : fl_J s S2 g2 h2 S g h H locs :=
  ⟨J.2.1, J.1, fun i j a b e => J.2.2.1 j i b a e.symm, J.2.2.2.2.1, J.2.2.2.1, J.2.2.2.2.2⟩
theorem fl_J.R {s : State} {S S2 : fh_S} {g g2 : fh_G} {h h2 : fh_H} {H : Heap} {locs : List Loc} (J : fl_J s S g h S2 g2 h2 H locs) : fh_R S g s.heap h H locs :=
  ⟨J.1, J.2.2.2.2.2.1, fun q h1 h2 => J.2.2.2.2.2.2.1 q h1 (fun z => h2 (Or.inr z)), fun q hq => Or.inr (J.2.2.2.2.2.2.2 q hq)⟩
theorem fl_wm {S : fh_S} {g : fh_G} {h : fh_H} {k : Nat} {q : Nat × va_E} (hk : (fh_w S g h)[k]? = some q) : k < S.1 ∧ q.1 = g.2.2 k := by
  have hl : k < S.1 := by
    have := (List.getElem?_eq_some_iff.mp hk).1
    simpa [fh_w] using this
  rw [fh_w_at S g h hl] at hk
  cases hk
  exact ⟨hl, rfl⟩
/-- the other heap stays, where only the first one's cells, and new ones, may change -/
theorem fl_J.other {s : State} {S S2 : fh_S} {g g2 : fh_G} {h h2 : fh_H} {H H1 : Heap} {locs : List Loc} (J : fl_J s S g h S2 g2 h2 H locs) (hk : ∀ q : Nat, q < H.size → ¬ fh_A S g H.size q → H1[q]? = H[q]?) : va_P g2.1 vwCl (fh_w S2 g2 h2) H1 :=
  J.2.1.kept (fun k q hq => by
    obtain ⟨hl, he⟩ := fl_wm hq
    have hlt := (J.2.1 k q hq).lt
    refine hk _ hlt (fun z => ?_)
    rcases z with ⟨i, hi, e⟩ | z
    · exact J.2.2.1 i k hi hl (by rw [← e, he])
    · omega)
section FL
variable {p : Program} {l : Launch} {e : Env} {R : Room} {s : State} {m : MethodId} {args : Array Value} {below : List Frame} {meth : Method} {c : Code} {H : Heap} {locs : List Loc} {cells slots : Nat} {Q : State → Prop}
variable {cc : ByteArray} {pc nL : Nat} {ls : Array Slot} {rest st0 st1 : List Value} {own : String} {S S' S2 : fh_S} {g g2 : fh_G} {h h' h2 : fh_H} {v : Option Value} {z : (Nat → Nat) × (Nat → Nat)}
theorem fl_run {k n : Nat} {a : Array Value} (J : fl_J s S g h S2 g2 h2 H locs) (hr : va_Run p l e R s m args below meth c H locs cells slots k n (F0 m pc ls st0) rest (fh_Q S g H.size v h' a) (fh_A S g H.size))
    (kk : ∀ (H1 : Heap) (locs1 : List Loc), fl_J s S g h' S2 g2 h2 H1 locs1 → W p l e R s m args below meth c H1 locs1 (cells + k) (slots + n) Q (F0 m (pc + 3) ls (v.toList ++ rest))) : W p l e R s m args below meth c H locs cells slots Q (F0 m pc ls st0) := by
  intro T hT X
  obtain ⟨v0, st₀, t, T', L, h0, X', hL, e1, e2, ⟨hv, hp, hz, hk⟩, st⟩ := hr T hT X
  cases hv
  rw [h0] at hz hk
  obtain ⟨jA, jB, jap, jn, jm, jS⟩ := id J
  obtain ⟨t2, a1, b1⟩ := kk T'.heap (locs ++ L) ⟨by rw [e1]; exact hp, by rw [e1]; exact J.other hk, jap, jn, jm, Nat.le_trans jS.1 (by rw [e1]; exact hz), fun q h1 h2 => by
      rw [e1, hk q (Nat.lt_of_lt_of_le h1 jS.1) (fun y => by
        rcases y with ⟨i, hi, rfl⟩ | y
        · exact h2 (jn i hi)
        · exact h2 (Nat.le_trans jS.1 y))]
      exact jS.2.1 q h1 h2, fun q hq => by
      rcases List.mem_append.mp hq with y | y
      · exact jS.2.2 q y
      · rcases hL q y with ⟨i, hi, y⟩ | y
        · show _ ≤ q.base; rw [y]; exact jn i hi
        · exact Nat.le_trans jS.1 y⟩ T' rfl X'
  exact ⟨t2, st t2 a1, b1⟩
theorem fl_grown {g' : fh_G} {H1 : Heap} {L : List Loc} (J : fl_J s S g h S2 g2 h2 H locs) (hrel : fn_rel S g S' g' H.size) (hp : va_P g'.1 vwCl (fh_w S' g' h') H1) (hz : H.size ≤ H1.size) (hk : ∀ q : Nat, q < H.size → ¬ fh_A S g H.size q → H1[q]? = H[q]?) (hL : ∀ q ∈ L, fh_A S g H.size q.base) : fl_J s S' g' h' S2 g2 h2 H1 (locs ++ L) := by
  obtain ⟨jA, jB, jap, jn, jm, jS⟩ := id J
  have hnew : ∀ i, i < S'.1 → s.heap.size ≤ g'.2.2 i := fun i hi => by
    rcases Nat.lt_or_ge i S.1 with q | q
    · rw [hrel.2.2.2.1 i q]; exact jn i q
    · exact Nat.le_trans jS.1 (hrel.2.2.2.2 i q hi)
  refine ⟨hp, J.other hk, fun i j hi hj he => ?_, hnew, jm, Nat.le_trans jS.1 hz, fun q h1 h2 => ?_, fun q hq => ?_⟩
  · rcases Nat.lt_or_ge i S.1 with q | q
    · rw [hrel.2.2.2.1 i q] at he; exact jap i j q hj he
    · have a := hrel.2.2.2.2 i q hi
      have b := (jB j _ (fh_w_at S2 g2 h2 hj)).lt
      rw [he] at a
      have b : g2.2.2 j < H.size := b
      omega
  · rw [hk q (Nat.lt_of_lt_of_le h1 jS.1) (fun y => by
        rcases y with ⟨i, hi, rfl⟩ | y
        · exact h2 (jn i hi)
        · exact h2 (Nat.le_trans jS.1 y))]
    exact jS.2.1 q h1 h2
  · rcases List.mem_append.mp hq with y | y
    · exact jS.2.2 q y
    · rcases hL q y with ⟨i, hi, y⟩ | y
      · show _ ≤ q.base; rw [y]; exact jn i hi
      · exact Nat.le_trans jS.1 y
theorem fl_Cg {g' : fh_G} (C : fh_C p m c cc nL s args own S g) (h1 : g'.1 = g.1) (h2 : g'.2.1 = g.2.1) (hj : fh_inj S' g') : fh_C p m c cc nL s args own S' g' :=
  ⟨C.1, by
    obtain ⟨q1, q2⟩ := C.2.1
    exact ⟨by rw [h1]; unfold fh_ty; rw [h2]; exact q1, q2⟩, hj⟩
theorem fl_runC {k n : Nat} {a : Array Value} (C : fh_C p m c cc nL s args own S g) (J : fl_J s S g h S2 g2 h2 H locs) (hr : va_Run p l e R s m args below meth c H locs cells slots k n (F0 m pc ls st0) rest (fc_Q S g H.size S' h' a) (fh_A S g H.size))
    (kk : ∀ (g' : fh_G) (H1 : Heap) (locs1 : List Loc), fn_rel S g S' g' s.heap.size → fh_C p m c cc nL s args own S' g' → fl_J s S' g' h' S2 g2 h2 H1 locs1 → fh_ok S' h' → W p l e R s m args below meth c H1 locs1 (cells + k) (slots + n) Q (F0 m (pc + 3) ls rest)) : W p l e R s m args below meth c H locs cells slots Q (F0 m pc ls st0) := by
  intro T hT X
  obtain ⟨v0, st₀, t, T', L, h0, X', hL, e1, e2, ⟨hv, g', hrel, hinj, hok, hp, hz, hk⟩, st⟩ := hr T hT X
  cases hv
  rw [h0] at hz hk
  have hrel2 : fn_rel S g S' g' s.heap.size := ⟨hrel.1, hrel.2.1, hrel.2.2.1, hrel.2.2.2.1, fun i a b => Nat.le_trans J.2.2.2.2.2.1 (hrel.2.2.2.2 i a b)⟩
  obtain ⟨t2, a1, b1⟩ := kk g' T'.heap (locs ++ L) hrel2 (fl_Cg C hrel.2.1 hrel.2.2.1 hinj) (by rw [e1]; exact fl_grown J hrel hp hz hk hL) hok T' rfl X'
  exact ⟨t2, st t2 a1, b1⟩
theorem fl_runD {k n : Nat} {a : Array Value} (C : fh_C p m c cc nL s args own S g) (J : fl_J s S g h S2 g2 h2 H locs) (hr : va_Run p l e R s m args below meth c H locs cells slots k n (F0 m pc ls st0) rest (fd_Q S g H.size S' h' a) (fh_A S g H.size))
    (kk : ∀ (g' : fh_G) (H1 : Heap) (locs1 : List Loc), fn_rel S g S' g' s.heap.size → fh_C p m c cc nL s args own S' g' → fl_J s S' g' h' S2 g2 h2 H1 locs1 → W p l e R s m args below meth c H1 locs1 (cells + k) (slots + n) Q (F0 m (pc + 3) ls rest)) : W p l e R s m args below meth c H locs cells slots Q (F0 m pc ls st0) := by
  intro T hT X
  obtain ⟨v0, st₀, t, T', L, h0, X', hL, e1, e2, ⟨hv, g', hrel, hinj, hp, hz, hk⟩, st⟩ := hr T hT X
  cases hv
  rw [h0] at hz hk
  have hrel2 : fn_rel S g S' g' s.heap.size := ⟨hrel.1, hrel.2.1, hrel.2.2.1, hrel.2.2.2.1, fun i a b => Nat.le_trans J.2.2.2.2.2.1 (hrel.2.2.2.2 i a b)⟩
  obtain ⟨t2, a1, b1⟩ := kk g' T'.heap (locs ++ L) hrel2 (fl_Cg C hrel.2.1 hrel.2.2.1 hinj) (by rw [e1]; exact fl_grown J hrel hp hz hk hL) T' rfl X'
  exact ⟨t2, st t2 a1, b1⟩
theorem fl_D (C : fh_C p m c cc nL s args own S g) (C2 : fh_inj S2 g2) (J : fl_J s S g h S2 g2 h2 H locs) : va_D (fun q => s.heap.size ≤ q) (fh_w S g h ++ fh_w S2 g2 h2) := by
  obtain ⟨jA, jB, jap, jn, jm, jS⟩ := id J
  have hl : (fh_w S g h).length = S.1 := by simp [fh_w]
  have g0 : ∀ (k : Nat) (q : Nat × va_E), (fh_w S g h ++ fh_w S2 g2 h2)[k]? = some q → (k < S.1 ∧ q.1 = g.2.2 k) ∨ (S.1 ≤ k ∧ k - S.1 < S2.1 ∧ q.1 = g2.2.2 (k - S.1)) := fun k q hq => by
    rcases Nat.lt_or_ge k S.1 with a | a
    · rw [List.getElem?_append_left (by rw [hl]; exact a)] at hq
      exact Or.inl ⟨a, (fl_wm hq).2⟩
    · rw [List.getElem?_append_right (by rw [hl]; exact a), hl] at hq
      exact Or.inr ⟨a, fl_wm hq⟩
  refine ⟨fun i j x y hi hj he => ?_, fun k q hq => ?_⟩
  · rcases g0 i x hi with ⟨a1, a2⟩ | ⟨a1, a2, a3⟩ <;> rcases g0 j y hj with ⟨b1, b2⟩ | ⟨b1, b2, b3⟩
    · exact C.2.2 i j a1 b1 (by rw [← a2, ← b2, he])
    · exact absurd (by rw [← a2, ← b3, he]) (jap i _ a1 b2)
    · exact absurd (by rw [← b2, ← a3, he]) (jap j _ b1 a2)
    · have := C2 _ _ a2 b2 (by rw [← a3, ← b3, he]); omega
  · rcases g0 k q hq with ⟨a1, a2⟩ | ⟨a1, a2, a3⟩
    · show _ ≤ q.1; rw [a2]; exact jn k a1
    · show _ ≤ q.1; rw [a3]; exact jm _ a2
theorem fl_push {k len q : Nat} {H1 : Heap} {en : va_E} (hok : fh_ok S h) (C : fh_C p m c cc nL s args own S g) (C2 : fh_inj S2 g2) (hg : g2.1 = g.1) (J : fl_J s S g h S2 g2 h2 H locs) (hP1 : va_P g.1 vwCl ((fh_w S g h ++ fh_w S2 g2 h2) ++ [(q, en)]) H1) (hD1 : va_D (fun q => s.heap.size ≤ q) ((fh_w S g h ++ fh_w S2 g2 h2) ++ [(q, en)])) (hS1 : va_S (fun q => s.heap.size ≤ q) s.heap H1 locs) (hen : en = fh_e (fh_push S k len) (g.1, g.2.1, va_up g.2.2 S.1 q) (fh_z h S.1) S.1) :
    fn_rel S g (fh_push S k len) (g.1, g.2.1, va_up g.2.2 S.1 q) s.heap.size ∧ fh_C p m c cc nL s args own (fh_push S k len) (g.1, g.2.1, va_up g.2.2 S.1 q) ∧ fl_J s (fh_push S k len) (g.1, g.2.1, va_up g.2.2 S.1 q) (fh_z h S.1) S2 g2 h2 H1 locs := by
  obtain ⟨k1, k2, k3, k4⟩ := fl_sub hP1 hD1
  have hSA : va_S (fh_A S g s.heap.size) s.heap H1 locs := ⟨hS1.1, fun q h1 h2 => hS1.2.1 q h1 (fun z => h2 (Or.inr z)), fun q hq => Or.inr (hS1.2.2 q hq)⟩
  have k3' : va_D (fh_A S g s.heap.size) (fh_w S g h ++ [(q, en)]) := ⟨k3.1, fun k x hx => Or.inr (k3.2 k x hx)⟩
  obtain ⟨r1, r2, r3⟩ := fn_grow (k := k) (len := len) hok C hSA k1 k3' hen
  obtain ⟨jA, jB, jap, jn, jm, jS⟩ := id J
  refine ⟨r3, r1, r2.1, by rw [hg]; exact k2, fun i j hi hj he => ?_, fun i hi => ?_, jm, hS1⟩
  · have hi : i < S.1 + 1 := hi
    rcases Nat.lt_or_ge i S.1 with a | a
    · have he : va_up g.2.2 S.1 q i = g2.2.2 j := he
      rw [va_up_ne _ _ (by omega)] at he
      exact jap i j a hj he
    · have he : va_up g.2.2 S.1 q i = g2.2.2 j := he
      rw [show i = S.1 by omega, va_up_self] at he
      exact k4 j _ (fh_w_at S2 g2 h2 hj) he.symm
  · have hi : i < S.1 + 1 := hi
    rcases Nat.lt_or_ge i S.1 with a | a
    · show _ ≤ va_up g.2.2 S.1 q i
      rw [va_up_ne _ _ (by omega)]; exact jn i a
    · exact r3.2.2.2.2 i a hi
theorem fl_new {idx ci N : Nat} (C : fh_C p m c cc nL s args own S g) (C2 : fh_inj S2 g2) (hg : g2.1 = g.1) (J : fl_J s S g h S2 g2 h2 H locs) (hok : fh_ok S h) (F : fn_K own idx ci) (hN : fh_nf ci = N) (hcells : cells + 1 ≤ R.cells) (hslots : slots + N ≤ R.slots) (hdg : decode cc pc = .ok (.new idx, 3))
    (kk : ∀ (S' : fh_S) (h' : fh_H) (g' : fh_G) (H1 : Heap), S' = fh_push S ci 0 → h' = fh_z h S.1 → fn_rel S g S' g' s.heap.size → fh_C p m c cc nL s args own S' g' → fl_J s S' g' h' S2 g2 h2 H1 locs → fh_ok S' h' → fh_kq S' S.1 ci = true → W p l e R s m args below meth c H1 locs (cells + 1) (slots + N) Q (F0 m (pc + 3) ls (.ref (g'.2.2 S.1) :: rest))) : W p l e R s m args below meth c H locs cells slots Q (F0 m pc ls rest) := by
  obtain ⟨Cn, T, N', t0, h1, h2, h3, h4, h5, h6, h7, h8, h9⟩ := F
  subst hN h7
  obtain ⟨⟨hx, hb, hml, hown, hts⟩, ⟨hK, hNn⟩, hj⟩ := id C
  refine va_new (ci := ci) (fs := (List.range (fh_nf ci)).map (fun j => match fh_s ci j with | 0 => Value.int 0 | 1 => Value.long 0 | _ => Value.null)) hx hb hts h2 t0 h3 hown (hts _ h4) (hts _ h5) (hts _ h6) hK (J.1.app (by rw [← hg]; exact J.2.1)) (fl_D C C2 J) J.2.2.2.2.2 (fun q h => h) h1 (fun j hj => ?_) hcells hslots hdg (fun q H1 hP1 hD1 hS1 => ?_)
  · rw [h9 j hj]
    simp only [vp_V, List.getD_eq_getElem?_getD]
    simp [hj]
    rcases fh_s ci j with _ | _ | k <;> rfl
  · have hen : (Sum.inr (ci, (List.range (fh_nf ci)).map (fun j => match fh_s ci j with | 0 => Value.int 0 | 1 => Value.long 0 | _ => Value.null)) : va_E) = fh_e (fh_push S ci 0) (g.1, g.2.1, va_up g.2.2 S.1 q) (fh_z h S.1) S.1 := by
      rw [fh_e_ob _ _ (show (fh_push S ci 0).2.1 S.1 = ci from va_up_self _ _ _) h8]
      congr 2
      apply List.map_congr_left
      intro j _
      simp only [fh_v, fh_z]
      split <;> simp_all [va_rf]
    obtain ⟨k1, k2, k3⟩ := fl_push (k := ci) (len := 0) hok C C2 hg J hP1 hD1 hS1 hen
    have := kk _ _ _ H1 rfl rfl k1 k2 k3 (fh_ok_push ci 0 hok) (fh_kq_new S ci 0)
    rw [show (g.1, g.2.1, va_up g.2.2 S.1 q).2.2 S.1 = q from va_up_self _ _ _] at this
    exact this
theorem fl_newj {n : Int32} {N : Nat} (C : fh_C p m c cc nL s args own S g) (C2 : fh_inj S2 g2) (hg : g2.1 = g.1) (J : fl_J s S g h S2 g2 h2 H locs) (hok : fh_ok S h) (harr : Cond.arrayClass .long ∈ fh_U) (hn : ¬ n < 0) (hN : n.toNatClampNeg = N) (hby : N * componentBytes .long ≤ 536870912) (hcells : cells + 1 ≤ R.cells) (hslots : slots + N ≤ R.slots) (hdg : decode cc pc = .ok (.newarray .long, 2))
    (kk : ∀ (S' : fh_S) (h' : fh_H) (g' : fh_G) (H1 : Heap), S' = fh_push S 14 N → h' = fh_z h S.1 → fn_rel S g S' g' s.heap.size → fh_C p m c cc nL s args own S' g' → fl_J s S' g' h' S2 g2 h2 H1 locs → fh_kq S' S.1 14 = true → W p l e R s m args below meth c H1 locs (cells + 1) (slots + N) Q (F0 m (pc + 2) ls (.ref (g'.2.2 S.1) :: rest))) : W p l e R s m args below meth c H locs cells slots Q (F0 m pc ls (.int n :: rest)) := by
  obtain ⟨⟨hx, hb, hml, hown, hts⟩, ⟨hK, hNn⟩, hj⟩ := id C
  refine va_newa (atype := .long) (ty := .long) (a0 := (N, (.inr (.inl (fun _ => 0))))) hx hb (hts _ harr) rfl hK (J.1.app (by rw [← hg]; exact J.2.1)) (fl_D C C2 J) J.2.2.2.2.2 (fun q h => h) (fun _ => rfl) hn hN hby hcells hslots hdg (fun q cA H1 hK1 hP1 hD1 hS1 => ?_)
  have hcA : cA = g.2.1 14 := by
    have e1 : s.vm.findClass ("[" ++ (FieldType.long).toString) = some cA := (hK1.2 4 (cA, .long) rfl).2
    have e2 : s.vm.findClass ("[" ++ (FieldType.long).toString) = some (g.2.1 14) := (hK.2 1 (g.2.1 14, .long) rfl).2
    exact Option.some.inj (e1.symm.trans e2)
  have hen : (Sum.inl (cA, N, (.inr (.inl (fun _ => 0)))) : va_E) = fh_e (fh_push S 14 N) (g.1, g.2.1, va_up g.2.2 S.1 q) (fh_z h S.1) S.1 := by
    rw [fh_e_14 _ _ (show (fh_push S 14 N).2.1 S.1 = 14 from va_up_self _ _ _), hcA, show (fh_push S 14 N).2.2 S.1 = N from va_up_self _ _ _, show (fh_z h S.1).2.1 S.1 = fun _ => 0 from by funext j; simp [fh_z]]
  obtain ⟨k1, k2, k3⟩ := fl_push (k := 14) (len := N) hok C C2 hg J hP1 hD1 hS1 hen
  have := kk _ _ _ H1 rfl rfl k1 k2 k3 (fh_kq_new S 14 N)
  rw [show (g.1, g.2.1, va_up g.2.2 S.1 q).2.2 S.1 = q from va_up_self _ _ _] at this
  exact this
/-- calls of the law -/
theorem fl_cI {y : MethodName} {bc : ByteArray} {mL np d k n idx i : Nat} {As : List Value} (C : fh_C p m c cc nL s args own S g) (hN : fc_N s) (J : fl_J s S g h S2 g2 h2 H locs) (hM : fc_M l y bc mL d k n S g (.ref (g.2.2 i) :: As) h S' h') (Y : fh_Y y bc mL none np) (hyn : y.name = "<init>") (YI : Cond.instanceMethod y ∈ fh_U) (lk : Cond.methodLink own idx y ∈ fh_U)
    (hn : As.length = np) (hsz : ls.size = nL) (hrm : d + 21 ≤ R.frames ∧ mL + (60 * d + 619) ≤ R.locals) (hst : st0 = As.reverse ++ .ref (g.2.2 i) :: rest) (hW : (rest.map fun v => v.category).sum ≤ 8) (hcap : cells + k ≤ R.cells ∧ slots + n ≤ R.slots) (hdg : decode cc pc = .ok (.invokespecial idx, 3))
    (kk : ∀ (g' : fh_G) (H1 : Heap) (locs1 : List Loc), fn_rel S g S' g' s.heap.size → fh_C p m c cc nL s args own S' g' → fl_J s S' g' h' S2 g2 h2 H1 locs1 → fh_ok S' h' → W p l e R s m args below meth c H1 locs1 (cells + k) (slots + n) Q (F0 m (pc + 3) ls rest)) : W p l e R s m args below meth c H locs cells slots Q (F0 m pc ls st0) := by
  subst hst
  obtain ⟨Y1, Y2, Y3, Y4, Y5⟩ := Y
  have hcw : CallB R s args own idx y bc mL none (.code y bc mL none :: fh_U) (fc_rm d k n) k n np := callB_of np C.1.2.2.2.2 (fh_gdc Y1) rfl rfl rfl (C.1.2.2.2.2 _ Y2) (C.1.2.2.2.2 _ lk) ⟨Y3, Y4, Y5⟩ ⟨by show d + 20 + 1 ≤ _; omega, by show 8 + (mL + 11) + (60 * d + 600) ≤ _; omega⟩
  exact fl_runC C J (va_runI C.1 (hM H.size) ⟨hcw, hyn, C.1.2.2.2.2 _ YI⟩ ⟨fc_blind S g _ _ h, fun U hU hW => ⟨rfl, by rw [hU], by rw [hU]; exact J.1, C.2.1.warm hW, hN.warm hW⟩⟩ rfl hn hsz rfl (lv_room hW) hdg hcap) kk
theorem fl_cD {y : MethodName} {bc : ByteArray} {mL np d k n idx i : Nat} {As : List Value} (C : fh_C p m c cc nL s args own S g) (hN : fc_N s) (J : fl_J s S g h S2 g2 h2 H locs) (hM : fd_M l y bc mL d k n S g (.ref (g.2.2 i) :: As) h S' h') (Y : fh_Y y bc mL none np) (hyn : y.name = "<init>") (YI : Cond.instanceMethod y ∈ fh_U) (lk : Cond.methodLink own idx y ∈ fh_U)
    (hn : As.length = np) (hsz : ls.size = nL) (hrm : d + 21 ≤ R.frames ∧ mL + (60 * d + 619) ≤ R.locals) (hst : st0 = As.reverse ++ .ref (g.2.2 i) :: rest) (hW : (rest.map fun v => v.category).sum ≤ 8) (hcap : cells + k ≤ R.cells ∧ slots + n ≤ R.slots) (hdg : decode cc pc = .ok (.invokespecial idx, 3))
    (kk : ∀ (g' : fh_G) (H1 : Heap) (locs1 : List Loc), fn_rel S g S' g' s.heap.size → fh_C p m c cc nL s args own S' g' → fl_J s S' g' h' S2 g2 h2 H1 locs1 → W p l e R s m args below meth c H1 locs1 (cells + k) (slots + n) Q (F0 m (pc + 3) ls rest)) : W p l e R s m args below meth c H locs cells slots Q (F0 m pc ls st0) := by
  subst hst
  obtain ⟨Y1, Y2, Y3, Y4, Y5⟩ := Y
  have hcw : CallB R s args own idx y bc mL none (.code y bc mL none :: fh_U) (fc_rm d k n) k n np := callB_of np C.1.2.2.2.2 (fh_gdc Y1) rfl rfl rfl (C.1.2.2.2.2 _ Y2) (C.1.2.2.2.2 _ lk) ⟨Y3, Y4, Y5⟩ ⟨by show d + 20 + 1 ≤ _; omega, by show 8 + (mL + 11) + (60 * d + 600) ≤ _; omega⟩
  exact fl_runD C J (va_runI C.1 (hM H.size) ⟨hcw, hyn, C.1.2.2.2.2 _ YI⟩ ⟨fc_blind S g _ _ h, fun U hU hW => ⟨rfl, by rw [hU], by rw [hU]; exact J.1, C.2.1.warm hW, hN.warm hW⟩⟩ rfl hn hsz rfl (lv_room hW) hdg hcap) kk
theorem fl_cV {y : MethodName} {bc : ByteArray} {mL n d idx ci i : Nat} {ret : Option FieldType} {As : List Value} (C : fh_C p m c cc nL s args own S g) (J : fl_J s S g h S2 g2 h2 H locs) (hM : fh_M l y bc mL ret (fh_rm d) S g (.ref (g.2.2 i) :: As) h v h') (Y : fh_Y y bc mL ret n) (YV : fh_YV y) (lk : Cond.methodLink own idx y ∈ fh_U)
    (hi : fh_kq S i ci = true) (hc : ∃ T N, vwCl[ci]? = some (y.cls, T, N) ∧ ci < 13) (hn : As.length = n) (hsz : ls.size = nL) (hrm : d + 21 ≤ R.frames ∧ mL + (60 * d + 619) ≤ R.locals) (hst : st0 = As.reverse ++ .ref (g.2.2 i) :: rest) (hW : (rest.map fun v => v.category).sum ≤ 8) (hcap : cells ≤ R.cells ∧ slots ≤ R.slots) (hs1 : v.toList ++ rest = st1) (hdg : decode cc pc = .ok (.invokevirtual idx, 3))
    (kk : ∀ (H1 : Heap) (locs1 : List Loc), fl_J s S g h' S2 g2 h2 H1 locs1 → W p l e R s m args below meth c H1 locs1 cells slots Q (F0 m (pc + 3) ls st1)) : W p l e R s m args below meth c H locs cells slots Q (F0 m pc ls st0) := by
  subst hst hs1
  obtain ⟨Y1, Y2, Y3, Y4, Y5⟩ := Y
  have hcw : CallW R s args own y.cls idx y bc mL ret (.code y bc mL ret :: fh_U) (fh_rm d) 0 0 n := cwV n C.1.2.2.2.2 (fh_gd (fun w hw => by
    simp only [wsV, List.mem_append, List.mem_cons, List.not_mem_nil, or_false] at hw
    rcases hw with (rfl | rfl | rfl | rfl) | (rfl | hw)
    · exact lk
    · exact YV.1
    · exact YV.2
    · exact Y2
    · exact Y1
    · exact hw)) rfl rfl rfl ⟨rfl, Y3, Y4, Y5⟩ ⟨by show d + 20 + 1 ≤ _; omega, by show 8 + (mL + 11) + (60 * d + 600) ≤ _; omega⟩
  exact fl_run J (va_runV C.1 (hM H.size) hcw ⟨fh_blind S g _ _ h, fz_rv C J.R hi hc, fun U hU hW => ⟨rfl, by rw [hU], by rw [hU]; exact J.1, C.2.1.warm hW⟩⟩ rfl hn hsz rfl (lv_room hW) hdg ⟨hcap.1, hcap.2⟩) kk
theorem fl_cX {y : MethodName} {bc : ByteArray} {mL n d idx ci i : Nat} {ret : Option FieldType} {As : List Value} (C : fh_C p m c cc nL s args own S g) (EX : fx_E z (fh_A S g s.heap.size) s s.heap) (J : fl_J s S g h S2 g2 h2 H locs) (hM : fx_M l y bc mL ret (fh_rm d) S g z (.ref (g.2.2 i) :: As) h v h') (Y : fh_Y y bc mL ret n) (YV : fh_YV y) (lk : Cond.methodLink own idx y ∈ fh_U)
    (hi : fh_kq S i ci = true) (hc : ∃ T N, vwCl[ci]? = some (y.cls, T, N) ∧ ci < 13) (hn : As.length = n) (hsz : ls.size = nL) (hrm : d + 21 ≤ R.frames ∧ mL + (60 * d + 619) ≤ R.locals) (hst : st0 = As.reverse ++ .ref (g.2.2 i) :: rest) (hW : (rest.map fun v => v.category).sum ≤ 8) (hcap : cells ≤ R.cells ∧ slots ≤ R.slots) (hs1 : v.toList ++ rest = st1) (hdg : decode cc pc = .ok (.invokevirtual idx, 3))
    (kk : ∀ (H1 : Heap) (locs1 : List Loc), fl_J s S g h' S2 g2 h2 H1 locs1 → W p l e R s m args below meth c H1 locs1 cells slots Q (F0 m (pc + 3) ls st1)) : W p l e R s m args below meth c H locs cells slots Q (F0 m pc ls st0) := by
  subst hst hs1
  obtain ⟨Y1, Y2, Y3, Y4, Y5⟩ := Y
  have hcw : CallW R s args own y.cls idx y bc mL ret (.code y bc mL ret :: fh_U) (fh_rm d) 0 0 n := cwV n C.1.2.2.2.2 (fh_gd (fun w hw => by
    simp only [wsV, List.mem_append, List.mem_cons, List.not_mem_nil, or_false] at hw
    rcases hw with (rfl | rfl | rfl | rfl) | (rfl | hw)
    · exact lk
    · exact YV.1
    · exact YV.2
    · exact Y2
    · exact Y1
    · exact hw)) rfl rfl rfl ⟨rfl, Y3, Y4, Y5⟩ ⟨by show d + 20 + 1 ≤ _; omega, by show 8 + (mL + 11) + (60 * d + 600) ≤ _; omega⟩
  exact fl_run J (va_runV C.1 (hM H.size) hcw ⟨fx_blind S g z _ _ h, fz_rv C J.R hi hc, fun U hU hW => ⟨rfl, by rw [hU], by rw [hU]; exact J.1, C.2.1.warm hW, by have q := EX.step J.R.2 hU hW; rw [hU] at q ⊢; exact q⟩⟩ rfl hn hsz rfl (lv_room hW) hdg ⟨hcap.1, hcap.2⟩) kk
end FL
/-- what the law's handlers need -/
def fl_N (U : State) : Prop := va_Nw (.castable "java/lang/IllegalArgumentException" "java/lang/IllegalArgumentException") U ∧ va_Nw (.castable "java/util/NoSuchElementException" "java/util/NoSuchElementException") U ∧ va_Nc "java/lang/IllegalArgumentException" "java/util/NoSuchElementException" U
theorem fl_N.warm {s U : State} (hW : s.WarmedH U.vm) (h : fl_N s) : fl_N U := ⟨va_Nw.warmC hW h.1, va_Nw.warmC hW h.2.1, h.2.2.moved hW.alike⟩
theorem fl_N.call {U : State} {f : JFrame} {mk : MethodId} {a : Array Value} (h : fl_N U) : fl_N (U.calling f mk a) := ⟨va_Nw.same rfl rfl h.1, va_Nw.same rfl rfl h.2.1, h.2.2.moved (u := U) (U := U.calling f mk a) (Vm.Alike.refl U.vm)⟩
def fl_P (S : fh_S) (g : fh_G) (z : (Nat → Nat) × (Nat → Nat)) (av : List Value) (sz : Nat) (h : fh_H) : Array Value → State → Prop := va_Pc av (fun U => U.heap.size = sz ∧ va_P g.1 vwCl (fh_w S g h) U.heap ∧ fh_K g U ∧ fx_E z (fh_A S g sz) U U.heap ∧ fl_N U)
theorem fl_blind (S : fh_S) (g : fh_G) (z : (Nat → Nat) × (Nat → Nat)) (av : List Value) (sz : Nat) (h : fh_H) : FrameBlind (fl_P S g z av sz h) := fun _ _ _ _ q => ⟨q.1, q.2.1, q.2.2.1, q.2.2.2.1.call, q.2.2.2.2.1.call, q.2.2.2.2.2.call⟩
/-- a wrapper of the law: it answers a number and makes at most n exceptions -/
def fl_M (l : Launch) (y : MethodName) (cc : ByteArray) (nL : Nat) (hh : List (Nat × Nat × Nat × Nat)) (d n : Nat) (S : fh_S) (g : fh_G) (z : (Nat → Nat) × (Nat → Nat)) (av : List Value) (h : fh_H) (r : Int32) (h' : fh_H) : Prop :=
  ∀ sz, Met l y (.codeWith y cc nL (some .int) hh :: fh_U) (fx_rm d n) (fl_P S g z av sz h) (fh_Q S g sz (some (.int r)) h') n (6 * n) (fh_A S g sz)
theorem fl_head {l : Launch} {y : MethodName} {cc : ByteArray} {nL d n : Nat} {hh : List (Nat × Nat × Nat × Nat)} {S : fh_S} {g : fh_G} {z : (Nat → Nat) × (Nat → Nat)} {av : List Value} {h h' : fh_H} {r : Int32} {own : String} (hy : plainName y.cls = true) (hyc : y.cls = own) (hj : fh_inj S g) (hnl : (lg_sl av).length ≤ nL)
    (body : ∀ (p : Program) (e : Env) (s : State) (m : MethodId) (below : List Frame) (meth : Method) (c : Code) (ls : Array Slot), fh_C p m c cc nL s av.toArray own S g → fx_E z (fh_A S g s.heap.size) s s.heap → fl_N s → c.exceptionTable.toList = tableOf hh → meth.sig.returnType = some .int → meth.locks = false → fh_R S g s.heap h s.heap [] → lv_has ls nL (lv_args 0 av) →
      W p l e (fx_rm d n) s m av.toArray below meth c s.heap [] 0 0 (MQ below (fh_Q S g s.heap.size (some (.int r)) h') av.toArray s n (6 * n) (fh_A S g s.heap.size)) (F0 m 0 ls [])) : fl_M l y cc nL hh d n S g z av h r h' := by
  intro sz
  refine va_MetW (cc := cc) (maxL := nL) (ret := some .int) (hh := hh) hy rfl ?_
  intro p e s m args below meth c s₁ B hml hv
  obtain ⟨rfl, hsz, hP, hK, hE, hN⟩ := hv
  subst hsz
  have hts := atoms_spec (ws := .codeWith y cc nL (some .int) hh :: fh_U) B.pre
  have hown : s.vm.findClass own = some m.cls := hyc ▸ findClass_of_methodNamed B.named
  have htab := vx_table (x := y) B (hts _ List.mem_cons_self)
  rw [lg_entry_eq]
  exact body p e s m below meth c _ ⟨⟨B.exec, B.bytes, hml, hown, fun w hw => hts w (List.mem_cons_of_mem _ hw)⟩, hK, hj⟩ hE hN htab B.returns B.notSynchronized ⟨hP, va_S.rf⟩ (lv_entry av hnl)
section FL2
variable {p : Program} {l : Launch} {e : Env} {R : Room} {s : State} {m : MethodId} {args : Array Value} {below : List Frame} {meth : Method} {c : Code} {H : Heap} {locs : List Loc} {cells slots : Nat} {Q : State → Prop}
variable {cc : ByteArray} {pc nL : Nat} {ls : Array Slot} {rest st0 st1 : List Value} {own : String} {S S' S2 : fh_S} {g g2 : fh_G} {h h' h2 : fh_H} {v : Option Value} {z : (Nat → Nat) × (Nat → Nat)}
theorem fl_iret {n : Nat} {r x : Int32} (C : fh_C p m c cc nL s args own S g) (hr : meth.sig.returnType = some .int) (hlocks : meth.locks = false) (hR : fh_R S g s.heap h H locs) (e0 : some (x, h) = some (r, h')) (hc : cells ≤ n) (hs : slots ≤ 6 * n) (hdg : decode cc pc = .ok (.ireturn, 1)) :
    W p l e R s m args below meth c H locs cells slots (MQ below (fh_Q S g s.heap.size (some (.int r)) h') args s n (6 * n) (fh_A S g s.heap.size)) (F0 m pc ls [.int x]) := by
  cases e0
  exact W.widen hc hs (W.iret C.1.1 C.1.2.1 hr (fun t ht hW => ⟨rfl, by rw [ht]; exact hR.1, hR.2.F ht⟩) hR.2.2.2 hdg hlocks)
/-- caught by the only row, or by the second behind one for NoSuchElementException -/
theorem fl_catch1 {own : String} {k q lo hi hpc ic : Nat} {ce : Cell} {st : List (Nat × Nat × Nat × Nat)} (C : fh_C p m c cc nL s args own S g) (hN : fl_N s) (htab : c.exceptionTable.toList = tableOf ((lo, hi, hpc, ic) :: st)) (hk : k = 0 ∨ k = 1) (hlk : Cond.classLink own ic (fx_n k) ∈ fh_U) (hlo : (decide (lo ≤ pc) && decide (pc < hi)) = true) (hic : ic ≠ 0) (h1 : H[q]? = some ce) (h2 : ce.vm = .none) (h3 : s.vm.findClass (fx_n k) = some ce.cls)
    (kk : W p l e R s m args below meth c H locs cells slots Q (F0 m hpc ls [.ref q])) : vx_W p l e R s m args below meth c H locs cells slots Q (F0 m pc ls rest) q := by
  refine vx_catch (name := fx_n k) C.1.2.2.2.1 [] _ (tableOf st) htab (fun z hz => by cases hz) ?_ hic (C.1.2.2.2.2 _ hlk) ?_ h1 h2 h3 kk
  · simpa [covers] using hlo
  · rcases hk with rfl | rfl
    · exact va_Nw.use rfl hN.1
    · exact va_Nw.use rfl hN.2.1
theorem fl_catch2 {own : String} {q lo hi hpc ic lo' hi' hpc' ic' : Nat} {ce : Cell} (C : fh_C p m c cc nL s args own S g) (hN : fl_N s) (htab : c.exceptionTable.toList = tableOf [(lo, hi, hpc, ic), (lo', hi', hpc', ic')]) (hlk : Cond.classLink own ic (fx_n 1) ∈ fh_U) (hlk' : Cond.classLink own ic' (fx_n 0) ∈ fh_U) (hlo : (decide (lo' ≤ pc) && decide (pc < hi')) = true) (hic : ic ≠ 0) (hic' : ic' ≠ 0) (h1 : H[q]? = some ce) (h2 : ce.vm = .none) (h3 : s.vm.findClass (fx_n 0) = some ce.cls)
    (kk : W p l e R s m args below meth c H locs cells slots Q (F0 m hpc' ls [.ref q])) : vx_W p l e R s m args below meth c H locs cells slots Q (F0 m pc ls rest) q := by
  refine vx_catch (name := fx_n 0) C.1.2.2.2.1 (tableOf [(lo, hi, hpc, ic)]) _ [] htab (fun z hz => Or.inr ?_) ?_ hic' (C.1.2.2.2.2 _ hlk') (va_Nw.use rfl hN.1) h1 h2 h3 kk
  · obtain rfl : z = _ := List.mem_singleton.mp hz
    exact ⟨hic, _, C.1.2.2.2.2 _ hlk, hN.2.2⟩
  · simpa [covers] using hlo
/-- a wrapper called by the law -/
theorem fl_cW {y : MethodName} {bc : ByteArray} {hh : List (Nat × Nat × Nat × Nat)} {mL np n d idx : Nat} {r : Int32} {As : List Value} (C : fh_C p m c cc nL s args own S g) (EX : fx_E z (fh_A S g s.heap.size) s s.heap) (hN : fl_N s) (J : fl_J s S g h S2 g2 h2 H locs) (hM : fl_M l y bc mL hh d n S g z As h r h') (Y : Cond.codeWith y bc mL (some .int) hh ∈ fh_U ∧ Cond.initialized y.cls ∈ fh_U ∧ y.cls ≠ "java/lang/invoke/MethodHandle" ∧ y.cls ≠ "java/lang/invoke/VarHandle" ∧ (parseMethodDescriptor y.desc).map (fun d => d.parameters.length) = some np) (YS : Cond.static y ∈ fh_U) (lk : Cond.methodLink own idx y ∈ fh_U)
    (hn : As.length = np) (hsz : ls.size = nL) (hrm : d + 21 ≤ R.frames ∧ mL + (60 * d + 619) ≤ R.locals) (hst : st0 = As.reverse ++ rest) (hW : (rest.map fun v => v.category).sum ≤ 8) (hcap : cells + n ≤ R.cells ∧ slots + 6 * n ≤ R.slots) (hdg : decode cc pc = .ok (.invokestatic idx, 3))
    (kk : ∀ (H1 : Heap) (locs1 : List Loc), fl_J s S g h' S2 g2 h2 H1 locs1 → W p l e R s m args below meth c H1 locs1 (cells + n) (slots + 6 * n) Q (F0 m (pc + 3) ls (.int r :: rest))) : W p l e R s m args below meth c H locs cells slots Q (F0 m pc ls st0) := by
  subst hst
  obtain ⟨Y1, Y2, Y3, Y4, Y5⟩ := Y
  have hcw : vx_CSW R s args own idx y bc mL (some .int) hh (.codeWith y bc mL (some .int) hh :: fh_U) (fx_rm d n) n (6 * n) np := vx_cwSW np C.1.2.2.2.2 (fh_gd (fun w hw => by
    simp only [va_wsS, List.mem_append, List.mem_cons, List.not_mem_nil, or_false] at hw
    rcases hw with (rfl | rfl | rfl) | (rfl | hw)
    · exact lk
    · exact YS
    · exact Y2
    · exact Y1
    · exact hw)) rfl rfl rfl ⟨Y3, Y4, Y5⟩ ⟨by show d + 20 + 1 ≤ _; omega, by show 8 + (mL + 11) + (60 * d + 600) ≤ _; omega⟩
  exact fl_run J (vx_runSW C.1 (hM H.size) hcw ⟨fl_blind S g z _ _ h, fun U hU hW => ⟨rfl, by rw [hU], by rw [hU]; exact J.1, C.2.1.warm hW, by have q := EX.step J.R.2 hU hW; rw [hU] at q ⊢; exact q, hN.warm hW⟩⟩ rfl hn hsz rfl (lv_room hW) hdg hcap) kk
end FL2
def fl_b {α : Type} (o : Option ((Nat ⊕ α) × fh_H)) (c0 c1 : Option Int32) (f : α → fh_H → Option (Int32 × fh_H)) : Option (Int32 × fh_H) := match o with
  | none => none
  | some (.inl k, h) => if k = 0 then c0.map (fun x => (x, h)) else if k = 1 then c1.map (fun x => (x, h)) else none
  | some (.inr a, h) => f a h
theorem fr_flb {α : Type} {o : Option ((Nat ⊕ α) × fh_H)} {c0 c1 : Option Int32} {f : α → fh_H → Option (Int32 × fh_H)} {x : Int32 × fh_H} (h : fl_b o c0 c1 f = some x) : (∃ h1, o = some (.inl 0, h1) ∧ c0.map (fun x => (x, h1)) = some x) ∨ (∃ h1, o = some (.inl 1, h1) ∧ c1.map (fun x => (x, h1)) = some x) ∨ ∃ a h1, o = some (.inr a, h1) ∧ f a h1 = some x := by
  match o, h with
  | some (.inl k, h1), h =>
    simp only [fl_b] at h
    by_cases h0 : k = 0
    · rw [if_pos h0] at h; subst h0; exact Or.inl ⟨h1, rfl, h⟩
    · rw [if_neg h0] at h
      by_cases h2 : k = 1
      · rw [if_pos h2] at h; subst h2; exact Or.inr (Or.inl ⟨h1, rfl, h⟩)
      · rw [if_neg h2] at h; cases h
  | some (.inr a, h1), h => exact Or.inr (Or.inr ⟨a, h1, rfl, h⟩)
