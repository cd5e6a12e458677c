/-! BASE: a flat heap of objects by number. Shape (how many, kind, length), contents (ints, longs, references by number), the addresses of the numbers. -/
abbrev fh_S : Type := Nat × (Nat → Nat) × (Nat → Nat)
abbrev fh_H : Type := (Nat → Nat → Int32) × (Nat → Nat → Int64) × (Nat → Nat → Option Nat)
abbrev fh_G : Type := va_G × (Nat → ClassId) × (Nat → Nat)
def fh_kq (S : fh_S) (i c : Nat) : Bool := decide (i < S.1) && decide (S.2.1 i = c)
def fh_in (i : Int32) (n : Nat) : Bool := !(decide (i < 0) || decide (n ≤ i.toNatClampNeg))
def fh_up {α : Type} (f : Nat → Nat → α) (a k : Nat) (v : α) : Nat → Nat → α := fun b j => if b = a ∧ j = k then v else f b j
def fh_sI (h : fh_H) (a k : Nat) (v : Int32) : fh_H := (fh_up h.1 a k v, h.2.1, h.2.2)
def fh_sJ (h : fh_H) (a k : Nat) (v : Int64) : fh_H := (h.1, fh_up h.2.1 a k v, h.2.2)
def fh_sR (h : fh_H) (a k : Nat) (v : Option Nat) : fh_H := (h.1, h.2.1, fh_up h.2.2 a k v)
/-- how many fields a class has, and the sort of each: 0 an int, 1 a long, 2 a reference -/
def fh_nf (ci : Nat) : Nat := [4, 4, 5, 9, 3, 11, 9, 4, 2, 4, 9, 10, 49].getD ci 0
def fh_sl : List (List Nat) := [[1, 1, 1, 1], [2, 2, 0, 0], [1, 1, 1, 1, 0], [0, 0, 0, 0, 0, 0, 0, 0, 2], [2, 2, 1], [2, 2, 2, 2, 0, 0, 0, 0, 0, 0, 1], [0, 2, 2, 2, 2, 0, 0, 0, 0], [2, 2, 0, 0], [2, 0], [1, 1, 1, 1], [2, 2, 2, 2, 0, 0, 0, 0, 0], [2, 2, 2, 2, 2, 2, 2, 2, 2, 2], [2, 2, 0, 0, 2, 2, 2, 2, 2, 2, 2, 2, 1, 2, 2, 0, 0, 0, 0, 0, 0, 0, 0, 0, 0, 1, 2, 2, 0, 0, 0, 2, 0, 2, 2, 0, 0, 0, 0, 0, 0, 0, 0, 0, 0, 0, 0, 0, 0]]
def fh_s (ci k : Nat) : Nat := (fh_sl.getD ci []).getD k 0
def fh_v (g : fh_G) (h : fh_H) (ci i k : Nat) : Value := match fh_s ci k with
  | 0 => .int (h.1 i k)
  | 1 => .long (h.2.1 i k)
  | _ => va_rf ((h.2.2 i k).map g.2.2)
def fh_e (S : fh_S) (g : fh_G) (h : fh_H) (i : Nat) : va_E :=
  if S.2.1 i = 13 then .inl (g.2.1 13, S.2.2 i, .inl (h.1 i))
  else if S.2.1 i = 14 then .inl (g.2.1 14, S.2.2 i, .inr (.inl (h.2.1 i)))
  else if S.2.1 i = 15 then .inl (g.2.1 15, S.2.2 i, .inr (.inr (.inr (.inr (fun k => (h.2.2 i k).map g.2.2)))))
  else if S.2.1 i = 16 then .inl (g.2.1 16, S.2.2 i, .inr (.inr (.inr (.inr (fun k => (h.2.2 i k).map g.2.2)))))
  else .inr (S.2.1 i, (List.range (fh_nf (S.2.1 i))).map (fh_v g h (S.2.1 i) i))
def fh_w (S : fh_S) (g : fh_G) (h : fh_H) : va_W := (List.range S.1).map (fun i => (g.2.2 i, fh_e S g h i))
def fh_ty (g : fh_G) : List (ClassId × FieldType) := [(g.2.1 13, .int), (g.2.1 14, .long), (g.2.1 15, .object "TermRows$Made"), (g.2.1 16, .object "TermRows$Row")]
def fh_A (S : fh_S) (g : fh_G) (sz : Nat) : Nat → Prop := fun q => (∃ i, i < S.1 ∧ q = g.2.2 i) ∨ sz ≤ q
def fh_inj (S : fh_S) (g : fh_G) : Prop := ∀ i j, i < S.1 → j < S.1 → g.2.2 i = g.2.2 j → i = j
/-- the words: all good ones of the tables -/
def fh_U : List Cond := lw_tbl.filter goodWord
theorem fh_inU {w : Cond} (h : w ∈ lw_tbl) (q : goodWord w = true) : w ∈ fh_U := List.mem_filter.mpr ⟨h, q⟩
theorem fh_gd {ws : List Cond} (h : ∀ w ∈ ws, w ∈ fh_U) : GoodIn fh_U ws := fun w hw => ⟨h w hw, good_of_word (List.mem_filter.mp (h w hw)).2⟩
theorem fh_kq_lt {S : fh_S} {i c : Nat} (h : fh_kq S i c = true) : i < S.1 := by
  simp only [fh_kq, Bool.and_eq_true, decide_eq_true_eq] at h; exact h.1
theorem fh_kq_k {S : fh_S} {i c : Nat} (h : fh_kq S i c = true) : S.2.1 i = c := by
  simp only [fh_kq, Bool.and_eq_true, decide_eq_true_eq] at h; exact h.2
theorem fh_in_vp {i : Int32} {n : Nat} (h : fh_in i n = true) : vp_in i n := by
  simp only [fh_in, Bool.not_eq_true', Bool.or_eq_false_iff, decide_eq_false_iff_not] at h
  exact fun q => q.elim h.1 h.2
theorem fh_w_at (S : fh_S) (g : fh_G) (h : fh_H) {i : Nat} (hi : i < S.1) : (fh_w S g h)[i]? = some (g.2.2 i, fh_e S g h i) := by
  simp [fh_w, hi]
theorem fh_w_of {S : fh_S} {g : fh_G} {h : fh_H} {k : Nat} {q : Nat × va_E} (hk : (fh_w S g h)[k]? = some q) : k < S.1 ∧ q = (g.2.2 k, fh_e S g h k) := by
  have hl : k < S.1 := by
    have := (List.getElem?_eq_some_iff.mp hk).1
    simpa [fh_w] using this
  rw [fh_w_at S g h hl] at hk
  exact ⟨hl, (Option.some.inj hk).symm⟩
theorem fh_D {S : fh_S} {g : fh_G} (hj : fh_inj S g) (h : fh_H) (sz : Nat) : va_D (fh_A S g sz) (fh_w S g h) := by
  refine ⟨fun i j p q hp hq e => ?_, fun k q hk => ?_⟩
  · obtain ⟨a1, rfl⟩ := fh_w_of hp
    obtain ⟨b1, rfl⟩ := fh_w_of hq
    exact hj i j a1 b1 e
  · obtain ⟨a1, rfl⟩ := fh_w_of hk
    exact Or.inl ⟨k, a1, rfl⟩
theorem fh_w_set {S : fh_S} {g : fh_G} {h h' : fh_H} {i : Nat} {e : va_E} (h1 : fh_e S g h' i = e) (h2 : ∀ j, j ≠ i → fh_e S g h' j = fh_e S g h j) : (fh_w S g h).set i (g.2.2 i, e) = fh_w S g h' := by
  apply List.ext_getElem?
  intro k
  rw [List.getElem?_set]
  by_cases hk : i = k
  · subst hk
    by_cases hl : i < S.1
    · rw [fh_w_at S g h' hl]
      simp [fh_w, hl, h1]
    · simp [fh_w, hl]
  · by_cases hl : k < S.1
    · rw [if_neg hk, fh_w_at S g h hl, fh_w_at S g h' hl, h2 k (fun q => hk q.symm)]
    · simp [fh_w, hl, hk]
theorem fh_e_ob {S : fh_S} {i ci : Nat} (g : fh_G) (h : fh_H) (hk : S.2.1 i = ci) (hc : ci < 13) : fh_e S g h i = .inr (ci, (List.range (fh_nf ci)).map (fh_v g h ci i)) := by
  subst hk
  unfold fh_e
  rw [if_neg (by omega), if_neg (by omega), if_neg (by omega), if_neg (by omega)]
theorem fh_e_13 {S : fh_S} {i : Nat} (g : fh_G) (h : fh_H) (hk : S.2.1 i = 13) : fh_e S g h i = .inl (g.2.1 13, S.2.2 i, .inl (h.1 i)) := by
  unfold fh_e; rw [if_pos hk]
theorem fh_e_14 {S : fh_S} {i : Nat} (g : fh_G) (h : fh_H) (hk : S.2.1 i = 14) : fh_e S g h i = .inl (g.2.1 14, S.2.2 i, .inr (.inl (h.2.1 i))) := by
  unfold fh_e; rw [if_neg (by omega), if_pos hk]
theorem fh_e_15 {S : fh_S} {i : Nat} (g : fh_G) (h : fh_H) (hk : S.2.1 i = 15) : fh_e S g h i = .inl (g.2.1 15, S.2.2 i, .inr (.inr (.inr (.inr (fun k => (h.2.2 i k).map g.2.2))))) := by
  unfold fh_e; rw [if_neg (by omega), if_neg (by omega), if_pos hk]
theorem fh_e_16 {S : fh_S} {i : Nat} (g : fh_G) (h : fh_H) (hk : S.2.1 i = 16) : fh_e S g h i = .inl (g.2.1 16, S.2.2 i, .inr (.inr (.inr (.inr (fun k => (h.2.2 i k).map g.2.2))))) := by
  unfold fh_e; rw [if_neg (by omega), if_neg (by omega), if_neg (by omega), if_pos hk]
theorem fh_e_cong {S : fh_S} {g : fh_G} {h h' : fh_H} {j : Nat} (a : ∀ k, h'.1 j k = h.1 j k) (b : ∀ k, h'.2.1 j k = h.2.1 j k) (d : ∀ k, h'.2.2 j k = h.2.2 j k) : fh_e S g h' j = fh_e S g h j := by
  have a' : h'.1 j = h.1 j := funext a
  have b' : h'.2.1 j = h.2.1 j := funext b
  have d' : h'.2.2 j = h.2.2 j := funext d
  have e : ∀ ci, fh_v g h' ci j = fh_v g h ci j := fun ci => by
    funext k
    simp only [fh_v, a', b', d']
  simp only [fh_e, a', b', d', e]
theorem fh_up_ne {α : Type} (f : Nat → Nat → α) {a k : Nat} (v : α) {b : Nat} (hb : b ≠ a) (j : Nat) : fh_up f a k v b j = f b j := by
  simp [fh_up, hb]
theorem fh_set_range {α : Type} (n k : Nat) (f f' : Nat → α) (v : α) (h1 : f' k = v) (h2 : ∀ j, j ≠ k → f' j = f j) : ((List.range n).map f).set k v = (List.range n).map f' := by
  apply List.ext_getElem?
  intro j
  rw [List.getElem?_set]
  by_cases hj : k = j
  · subst hj
    by_cases hl : k < n
    · simp [hl, h1]
    · simp [hl]
  · by_cases hl : j < n
    · simp [hj, hl, h2 j (fun q => hj q.symm)]
    · simp [hj, hl]
/-- links to private methods of a nest mate -/
def fh_N (U : State) : Prop := va_Nw (.methodLinkNest RX0 24 yX11_grown RX11) U ∧ va_Nw (.methodLinkNest RX2 41 yX11_grown RX11) U ∧ va_Nw (.methodLinkNest RX9 25 yX11_wholeRoot RX11) U
def fh_K (g : fh_G) (U : State) : Prop := va_K g.1 vwCl (fh_ty g) U ∧ fh_N U
theorem fh_K.warm {g : fh_G} {s U : State} (hW : s.WarmedH U.vm) (h : fh_K g s) : fh_K g U := ⟨va_K.moved hW.alike h.1, h.2.1.warmM hW, h.2.2.1.warmM hW, h.2.2.2.warmM hW⟩
theorem fh_K.call {g : fh_G} {U : State} {f : JFrame} {mk : MethodId} {a : Array Value} (h : fh_K g U) : fh_K g (U.calling f mk a) := ⟨va_K.moved (u := U) (U := U.calling f mk a) (Vm.Alike.refl U.vm) h.1, h.2.1.same rfl rfl, h.2.2.1.same rfl rfl, h.2.2.2.same rfl rfl⟩
/-- the standing facts of a walk -/
def fh_C (p : Program) (m : MethodId) (c : Code) (cc : ByteArray) (nL : Nat) (s : State) (args : Array Value) (own : String) (S : fh_S) (g : fh_G) : Prop :=
  CallFix p m c cc nL s args fh_U own ∧ fh_K g s ∧ fh_inj S g
def fh_R (S : fh_S) (g : fh_G) (H0 : Heap) (h : fh_H) (H : Heap) (locs : List Loc) : Prop := va_P g.1 vwCl (fh_w S g h) H ∧ va_S (fh_A S g H0.size) H0 H locs
/-- a field reference of the pool, resolved -/
def fh_F (own : String) (idx ci k : Nat) : Prop := ∃ (C : String) (T : u_T) (N : Nat), vwCl[ci]? = some (C, T, N) ∧ k < N ∧ Cond.fieldLink own idx (T k).1 (T k).2.1 (T k).2.2.1 ∈ fh_U ∧ (∀ w ∈ u_ws C T N, w ∈ fh_U) ∧ N = fh_nf ci ∧ ci < 13
def fh_Fw (own : String) (idx ci k : Nat) (ty : FieldType) : Prop := ∃ (C : String) (T : u_T) (N : Nat) (t0 : Nat → FieldType), vwCl[ci]? = some (C, T, N) ∧ k < N ∧ Cond.fieldLink own idx (T k).1 (T k).2.1 (T k).2.2.1 ∈ fh_U ∧ (∀ w ∈ u_ws C T N, w ∈ fh_U) ∧ N = fh_nf ci ∧ ci < 13 ∧
  (∀ k, k < N → parseFieldDescriptor (T k).2.2.1 = some (t0 k)) ∧ (∀ a, a < N → ∀ b, b < N → a ≠ b → (T a).2.1 ≠ (T b).2.1) ∧ (T k).2.2.2 = false ∧ parseFieldDescriptor (T k).2.2.1 = some ty
section FHR
variable {p : Program} {l : Launch} {e : Env} {R : Room} {s : State} {m : MethodId} {args : Array Value} {below : List Frame} {meth : Method} {c : Code} {H : Heap} {locs : List Loc} {cells slots : Nat} {Q : State → Prop}
variable {cc : ByteArray} {pc nL : Nat} {ls : Array Slot} {rest : List Value} {own : String} {S : fh_S} {g : fh_G} {h : fh_H}
theorem fr_get (C : fh_C p m c cc nL s args own S g) (hR : fh_R S g s.heap h H locs) {i ci k idx : Nat} (hi : fh_kq S i ci = true) (F : fh_F own idx ci k) (hdg : decode cc pc = .ok (.getfield idx, 3))
    (kk : W p l e R s m args below meth c H locs cells slots Q (F0 m (pc + 3) ls (fh_v g h ci i k :: rest))) : W p l e R s m args below meth c H locs cells slots Q (F0 m pc ls (.ref (g.2.2 i) :: rest)) := by
  obtain ⟨Cn, T, N, h1, h2, h3, h4, h5, h6⟩ := F
  obtain ⟨⟨hx, hb, hml, hown, hts⟩, ⟨hK, -⟩, hj⟩ := C
  refine va_get hx hb hts h4 hown hK hR.1 i (fs := (List.range (fh_nf ci)).map (fh_v g h ci i)) (by rw [fh_w_at S g h (fh_kq_lt hi), fh_e_ob g h (fh_kq_k hi) h6]) h1 k h2 (hts _ h3) (fun _ q => q) ?_ hdg kk
  rw [h5] at h2
  simp [h2]
theorem fr_geti (C : fh_C p m c cc nL s args own S g) (hR : fh_R S g s.heap h H locs) {i ci k idx : Nat} (hi : fh_kq S i ci = true) (F : fh_F own idx ci k) (hs : fh_s ci k = 0) (hdg : decode cc pc = .ok (.getfield idx, 3))
    (kk : W p l e R s m args below meth c H locs cells slots Q (F0 m (pc + 3) ls (.int (h.1 i k) :: rest))) : W p l e R s m args below meth c H locs cells slots Q (F0 m pc ls (.ref (g.2.2 i) :: rest)) :=
  fr_get C hR hi F hdg (by rw [show fh_v g h ci i k = .int (h.1 i k) by simp [fh_v, hs]]; exact kk)
theorem fr_getj (C : fh_C p m c cc nL s args own S g) (hR : fh_R S g s.heap h H locs) {i ci k idx : Nat} (hi : fh_kq S i ci = true) (F : fh_F own idx ci k) (hs : fh_s ci k = 1) (hdg : decode cc pc = .ok (.getfield idx, 3))
    (kk : W p l e R s m args below meth c H locs cells slots Q (F0 m (pc + 3) ls (.long (h.2.1 i k) :: rest))) : W p l e R s m args below meth c H locs cells slots Q (F0 m pc ls (.ref (g.2.2 i) :: rest)) :=
  fr_get C hR hi F hdg (by rw [show fh_v g h ci i k = .long (h.2.1 i k) by simp [fh_v, hs]]; exact kk)
theorem fr_getr (C : fh_C p m c cc nL s args own S g) (hR : fh_R S g s.heap h H locs) {i ci k idx j : Nat} (hi : fh_kq S i ci = true) (F : fh_F own idx ci k) (hs : fh_s ci k = 2) (hv : h.2.2 i k = some j) (hdg : decode cc pc = .ok (.getfield idx, 3))
    (kk : W p l e R s m args below meth c H locs cells slots Q (F0 m (pc + 3) ls (.ref (g.2.2 j) :: rest))) : W p l e R s m args below meth c H locs cells slots Q (F0 m pc ls (.ref (g.2.2 i) :: rest)) :=
  fr_get C hR hi F hdg (by rw [show fh_v g h ci i k = .ref (g.2.2 j) by simp [fh_v, hs, hv, va_rf]]; exact kk)
theorem fr_getn (C : fh_C p m c cc nL s args own S g) (hR : fh_R S g s.heap h H locs) {i ci k idx : Nat} (hi : fh_kq S i ci = true) (F : fh_F own idx ci k) (hs : fh_s ci k = 2) (hv : h.2.2 i k = none) (hdg : decode cc pc = .ok (.getfield idx, 3))
    (kk : W p l e R s m args below meth c H locs cells slots Q (F0 m (pc + 3) ls (.null :: rest))) : W p l e R s m args below meth c H locs cells slots Q (F0 m pc ls (.ref (g.2.2 i) :: rest)) :=
  fr_get C hR hi F hdg (by rw [show fh_v g h ci i k = .null by simp [fh_v, hs, hv, va_rf]]; exact kk)
theorem fr_put (C : fh_C p m c cc nL s args own S g) (hR : fh_R S g s.heap h H locs) {i ci k idx : Nat} {ty : FieldType} {v : Value} {h' : fh_H} (hi : fh_kq S i ci = true) (F : fh_Fw own idx ci k ty) (hn : narrow ty v = v) (hfit : fits ty v = true)
    (e1 : fh_v g h' ci i k = v) (e2 : ∀ j, j ≠ k → fh_v g h' ci i j = fh_v g h ci i j) (e3 : ∀ j, j ≠ i → fh_e S g h' j = fh_e S g h j) (hdg : decode cc pc = .ok (.putfield idx, 3))
    (kk : ∀ (H1 : Heap) (locs1 : List Loc), fh_R S g s.heap h' H1 locs1 → W p l e R s m args below meth c H1 locs1 cells slots Q (F0 m (pc + 3) ls rest)) : W p l e R s m args below meth c H locs cells slots Q (F0 m pc ls (v :: .ref (g.2.2 i) :: rest)) := by
  obtain ⟨Cn, T, N, t0, h1, h2, h3, h4, h5, h6, h7, h8, h9, h10⟩ := F
  obtain ⟨⟨hx, hb, hml, hown, hts⟩, ⟨hK, -⟩, hj⟩ := C
  refine va_put hx hb hts h4 t0 h7 h8 hown hK hR.1 (fh_D hj h _) hR.2 i (fs := (List.range (fh_nf ci)).map (fh_v g h ci i)) (by rw [fh_w_at S g h (fh_kq_lt hi), fh_e_ob g h (fh_kq_k hi) h6]) h1 k h2 (hts _ h3) (fun _ q => q) h9 h10 hn hfit (by simpa [← h5] using h2) hdg (fun H1 locs1 hP _ hS => kk H1 locs1 ⟨?_, hS⟩)
  rw [fh_set_range _ _ _ (fh_v g h' ci i) _ e1 e2, fh_w_set (h' := h') (fh_e_ob g h' (fh_kq_k hi) h6) e3] at hP
  exact hP
theorem fr_puti (C : fh_C p m c cc nL s args own S g) (hR : fh_R S g s.heap h H locs) {i ci k idx : Nat} {v : Int32} (hi : fh_kq S i ci = true) (F : fh_Fw own idx ci k .int) (hs : fh_s ci k = 0) (hdg : decode cc pc = .ok (.putfield idx, 3))
    (kk : ∀ (H1 : Heap) (locs1 : List Loc), fh_R S g s.heap (fh_sI h i k v) H1 locs1 → W p l e R s m args below meth c H1 locs1 cells slots Q (F0 m (pc + 3) ls rest)) : W p l e R s m args below meth c H locs cells slots Q (F0 m pc ls (.int v :: .ref (g.2.2 i) :: rest)) :=
  fr_put (h' := fh_sI h i k v) C hR hi F rfl rfl (by simp [fh_v, hs, fh_sI, fh_up]) (fun j hj => by simp [fh_v, fh_sI, fh_up, hj]) (fun j hj => fh_e_cong (fun k => fh_up_ne _ _ hj k) (fun _ => rfl) (fun _ => rfl)) hdg kk
theorem fr_nb {v : Int32} (hz : (v = 0 ∨ v = 1)) : narrow .boolean (.int v) = .int v ∧ fits .boolean (.int v) = true := by
  rcases hz with rfl | rfl <;> exact ⟨by decide +kernel, by decide +kernel⟩
theorem fr_putz (C : fh_C p m c cc nL s args own S g) (hR : fh_R S g s.heap h H locs) {i ci k idx : Nat} {v : Int32} (hi : fh_kq S i ci = true) (F : fh_Fw own idx ci k .boolean) (hs : fh_s ci k = 0) (hz : v = 0 ∨ v = 1) (hdg : decode cc pc = .ok (.putfield idx, 3))
    (kk : ∀ (H1 : Heap) (locs1 : List Loc), fh_R S g s.heap (fh_sI h i k v) H1 locs1 → W p l e R s m args below meth c H1 locs1 cells slots Q (F0 m (pc + 3) ls rest)) : W p l e R s m args below meth c H locs cells slots Q (F0 m pc ls (.int v :: .ref (g.2.2 i) :: rest)) :=
  fr_put (h' := fh_sI h i k v) C hR hi F (fr_nb hz).1 (fr_nb hz).2 (by simp [fh_v, hs, fh_sI, fh_up]) (fun j hj => by simp [fh_v, fh_sI, fh_up, hj]) (fun j hj => fh_e_cong (fun k => fh_up_ne _ _ hj k) (fun _ => rfl) (fun _ => rfl)) hdg kk
theorem fr_putj (C : fh_C p m c cc nL s args own S g) (hR : fh_R S g s.heap h H locs) {i ci k idx : Nat} {v : Int64} (hi : fh_kq S i ci = true) (F : fh_Fw own idx ci k .long) (hs : fh_s ci k = 1) (hdg : decode cc pc = .ok (.putfield idx, 3))
    (kk : ∀ (H1 : Heap) (locs1 : List Loc), fh_R S g s.heap (fh_sJ h i k v) H1 locs1 → W p l e R s m args below meth c H1 locs1 cells slots Q (F0 m (pc + 3) ls rest)) : W p l e R s m args below meth c H locs cells slots Q (F0 m pc ls (.long v :: .ref (g.2.2 i) :: rest)) :=
  fr_put (h' := fh_sJ h i k v) C hR hi F rfl rfl (by simp [fh_v, hs, fh_sJ, fh_up]) (fun j hj => by simp [fh_v, fh_sJ, fh_up, hj]) (fun j hj => fh_e_cong (fun _ => rfl) (fun k => fh_up_ne _ _ hj k) (fun _ => rfl)) hdg kk
theorem fr_putr (C : fh_C p m c cc nL s args own S g) (hR : fh_R S g s.heap h H locs) {i ci k idx j : Nat} {ty : FieldType} (hi : fh_kq S i ci = true) (F : fh_Fw own idx ci k ty) (hs : fh_s ci k = 2) (hn : narrow ty (.ref (g.2.2 j)) = .ref (g.2.2 j)) (hfit : fits ty (.ref (g.2.2 j)) = true) (hdg : decode cc pc = .ok (.putfield idx, 3))
    (kk : ∀ (H1 : Heap) (locs1 : List Loc), fh_R S g s.heap (fh_sR h i k (some j)) H1 locs1 → W p l e R s m args below meth c H1 locs1 cells slots Q (F0 m (pc + 3) ls rest)) : W p l e R s m args below meth c H locs cells slots Q (F0 m pc ls (.ref (g.2.2 j) :: .ref (g.2.2 i) :: rest)) :=
  fr_put (h' := fh_sR h i k (some j)) C hR hi F hn hfit (by simp [fh_v, hs, fh_sR, fh_up, va_rf]) (fun j hj => by simp [fh_v, fh_sR, fh_up, hj]) (fun j hj => fh_e_cong (fun _ => rfl) (fun _ => rfl) (fun k => fh_up_ne _ _ hj k)) hdg kk
theorem fr_putn (C : fh_C p m c cc nL s args own S g) (hR : fh_R S g s.heap h H locs) {i ci k idx : Nat} {ty : FieldType} (hi : fh_kq S i ci = true) (F : fh_Fw own idx ci k ty) (hs : fh_s ci k = 2) (hn : narrow ty .null = .null) (hfit : fits ty .null = true) (hdg : decode cc pc = .ok (.putfield idx, 3))
    (kk : ∀ (H1 : Heap) (locs1 : List Loc), fh_R S g s.heap (fh_sR h i k none) H1 locs1 → W p l e R s m args below meth c H1 locs1 cells slots Q (F0 m (pc + 3) ls rest)) : W p l e R s m args below meth c H locs cells slots Q (F0 m pc ls (.null :: .ref (g.2.2 i) :: rest)) :=
  fr_put (h' := fh_sR h i k none) C hR hi F hn hfit (by simp [fh_v, hs, fh_sR, fh_up, va_rf]) (fun j hj => by simp [fh_v, fh_sR, fh_up, hj]) (fun j hj => fh_e_cong (fun _ => rfl) (fun _ => rfl) (fun k => fh_up_ne _ _ hj k)) hdg kk
-- arrays
theorem fr_iald (C : fh_C p m c cc nL s args own S g) (hR : fh_R S g s.heap h H locs) {i : Nat} {x : Int32} (hi : fh_kq S i 13 = true) (hin : fh_in x (S.2.2 i) = true) (hdg : decode cc pc = .ok (.iaload, 1))
    (kk : W p l e R s m args below meth c H locs cells slots Q (F0 m (pc + 1) ls (.int (h.1 i x.toNatClampNeg) :: rest))) : W p l e R s m args below meth c H locs cells slots Q (F0 m pc ls (.int x :: .ref (g.2.2 i) :: rest)) :=
  va_iald C.1.1 C.1.2.1 C.2.1.1 hR.1 i 0 (by rw [fh_w_at S g h (fh_kq_lt hi), fh_e_13 g h (fh_kq_k hi)]) rfl (fh_in_vp hin) hdg kk
theorem fr_lald (C : fh_C p m c cc nL s args own S g) (hR : fh_R S g s.heap h H locs) {i : Nat} {x : Int32} (hi : fh_kq S i 14 = true) (hin : fh_in x (S.2.2 i) = true) (hdg : decode cc pc = .ok (.laload, 1))
    (kk : W p l e R s m args below meth c H locs cells slots Q (F0 m (pc + 1) ls (.long (h.2.1 i x.toNatClampNeg) :: rest))) : W p l e R s m args below meth c H locs cells slots Q (F0 m pc ls (.int x :: .ref (g.2.2 i) :: rest)) :=
  va_lald C.1.1 C.1.2.1 C.2.1.1 hR.1 i 1 (by rw [fh_w_at S g h (fh_kq_lt hi), fh_e_14 g h (fh_kq_k hi)]) rfl (fh_in_vp hin) hdg kk
theorem fr_aald (C : fh_C p m c cc nL s args own S g) (hR : fh_R S g s.heap h H locs) {i j ci : Nat} {x : Int32} (hi : fh_kq S i ci = true) (hci : ci = 15 ∨ ci = 16) (hin : fh_in x (S.2.2 i) = true) (hv : h.2.2 i x.toNatClampNeg = some j) (hdg : decode cc pc = .ok (.aaload, 1))
    (kk : W p l e R s m args below meth c H locs cells slots Q (F0 m (pc + 1) ls (.ref (g.2.2 j) :: rest))) : W p l e R s m args below meth c H locs cells slots Q (F0 m pc ls (.int x :: .ref (g.2.2 i) :: rest)) := by
  have kk2 : W p l e R s m args below meth c H locs cells slots Q (F0 m (pc + 1) ls (va_rf ((h.2.2 i x.toNatClampNeg).map g.2.2) :: rest)) := by rw [hv]; exact kk
  rcases hci with rfl | rfl
  · exact va_aldq C.1.1 C.1.2.1 C.2.1.1 hR.1 i 2 (by rw [fh_w_at S g h (fh_kq_lt hi), fh_e_15 g h (fh_kq_k hi)]) rfl (fh_in_vp hin) hdg kk2
  · exact va_aldq C.1.1 C.1.2.1 C.2.1.1 hR.1 i 3 (by rw [fh_w_at S g h (fh_kq_lt hi), fh_e_16 g h (fh_kq_k hi)]) rfl (fh_in_vp hin) hdg kk2
theorem fr_aaln (C : fh_C p m c cc nL s args own S g) (hR : fh_R S g s.heap h H locs) {i ci : Nat} {x : Int32} (hi : fh_kq S i ci = true) (hci : ci = 15 ∨ ci = 16) (hin : fh_in x (S.2.2 i) = true) (hv : h.2.2 i x.toNatClampNeg = none) (hdg : decode cc pc = .ok (.aaload, 1))
    (kk : W p l e R s m args below meth c H locs cells slots Q (F0 m (pc + 1) ls (.null :: rest))) : W p l e R s m args below meth c H locs cells slots Q (F0 m pc ls (.int x :: .ref (g.2.2 i) :: rest)) := by
  have kk2 : W p l e R s m args below meth c H locs cells slots Q (F0 m (pc + 1) ls (va_rf ((h.2.2 i x.toNatClampNeg).map g.2.2) :: rest)) := by rw [hv]; exact kk
  rcases hci with rfl | rfl
  · exact va_aldq C.1.1 C.1.2.1 C.2.1.1 hR.1 i 2 (by rw [fh_w_at S g h (fh_kq_lt hi), fh_e_15 g h (fh_kq_k hi)]) rfl (fh_in_vp hin) hdg kk2
  · exact va_aldq C.1.1 C.1.2.1 C.2.1.1 hR.1 i 3 (by rw [fh_w_at S g h (fh_kq_lt hi), fh_e_16 g h (fh_kq_k hi)]) rfl (fh_in_vp hin) hdg kk2
theorem fr_iast (C : fh_C p m c cc nL s args own S g) (hR : fh_R S g s.heap h H locs) {i : Nat} {x v : Int32} (hi : fh_kq S i 13 = true) (hin : fh_in x (S.2.2 i) = true) (hdg : decode cc pc = .ok (.iastore, 1))
    (kk : ∀ (H1 : Heap) (locs1 : List Loc), fh_R S g s.heap (fh_sI h i x.toNatClampNeg v) H1 locs1 → W p l e R s m args below meth c H1 locs1 cells slots Q (F0 m (pc + 1) ls rest)) : W p l e R s m args below meth c H locs cells slots Q (F0 m pc ls (.int v :: .int x :: .ref (g.2.2 i) :: rest)) := by
  refine va_iast C.1.1 C.1.2.1 C.2.1.1 hR.1 (fh_D C.2.2 h _) hR.2 i 0 (by rw [fh_w_at S g h (fh_kq_lt hi), fh_e_13 g h (fh_kq_k hi)]) rfl (fh_in_vp hin) hdg (fun H1 locs1 hP _ hS => kk H1 locs1 ⟨?_, hS⟩)
  rw [fh_w_set (h := h) (h' := fh_sI h i x.toNatClampNeg v) (by rw [fh_e_13 g _ (fh_kq_k hi)]; congr 4; funext j; simp [fh_sI, fh_up, upd]) (fun j hj => fh_e_cong (fun k => fh_up_ne _ _ hj k) (fun _ => rfl) (fun _ => rfl))] at hP
  exact hP
theorem fr_last (C : fh_C p m c cc nL s args own S g) (hR : fh_R S g s.heap h H locs) {i : Nat} {x : Int32} {v : Int64} (hi : fh_kq S i 14 = true) (hin : fh_in x (S.2.2 i) = true) (hdg : decode cc pc = .ok (.lastore, 1))
    (kk : ∀ (H1 : Heap) (locs1 : List Loc), fh_R S g s.heap (fh_sJ h i x.toNatClampNeg v) H1 locs1 → W p l e R s m args below meth c H1 locs1 cells slots Q (F0 m (pc + 1) ls rest)) : W p l e R s m args below meth c H locs cells slots Q (F0 m pc ls (.long v :: .int x :: .ref (g.2.2 i) :: rest)) := by
  refine va_last C.1.1 C.1.2.1 C.2.1.1 hR.1 (fh_D C.2.2 h _) hR.2 i 1 (by rw [fh_w_at S g h (fh_kq_lt hi), fh_e_14 g h (fh_kq_k hi)]) rfl (fh_in_vp hin) hdg (fun H1 locs1 hP _ hS => kk H1 locs1 ⟨?_, hS⟩)
  rw [fh_w_set (h := h) (h' := fh_sJ h i x.toNatClampNeg v) (by rw [fh_e_14 g _ (fh_kq_k hi)]; congr 5; funext j; simp [fh_sJ, fh_up, vp_updL]) (fun j hj => fh_e_cong (fun _ => rfl) (fun k => fh_up_ne _ _ hj k) (fun _ => rfl))] at hP
  exact hP
theorem fr_aast (C : fh_C p m c cc nL s args own S g) (hR : fh_R S g s.heap h H locs) {i j ci cj : Nat} {x : Int32} (hi : fh_kq S i ci = true) (hj : fh_kq S j cj = true) (hci : (ci = 15 ∧ cj = 3) ∨ (ci = 16 ∧ cj = 6)) (hin : fh_in x (S.2.2 i) = true) (hdg : decode cc pc = .ok (.aastore, 1))
    (kk : ∀ (H1 : Heap) (locs1 : List Loc), fh_R S g s.heap (fh_sR h i x.toNatClampNeg (some j)) H1 locs1 → W p l e R s m args below meth c H1 locs1 cells slots Q (F0 m (pc + 1) ls rest)) : W p l e R s m args below meth c H locs cells slots Q (F0 m pc ls (.ref (g.2.2 j) :: .int x :: .ref (g.2.2 i) :: rest)) := by
  rcases hci with ⟨rfl, rfl⟩ | ⟨rfl, rfl⟩
  · refine va_astq C.1.1 C.1.2.1 C.2.1.1 hR.1 (fh_D C.2.2 h _) hR.2 i 2 j 3 (by rw [fh_w_at S g h (fh_kq_lt hi), fh_e_15 g h (fh_kq_k hi)]) rfl (by rw [fh_w_at S g h (fh_kq_lt hj), fh_e_ob g h (fh_kq_k hj) (by decide)]) (r := (RX3, TX3, 9)) rfl (fh_in_vp hin) hdg (fun H1 locs1 hP _ hS => kk H1 locs1 ⟨?_, hS⟩)
    rw [fh_w_set (h := h) (h' := fh_sR h i x.toNatClampNeg (some j)) (by rw [fh_e_15 g _ (fh_kq_k hi)]; congr 7; funext k; by_cases hk : k = x.toNatClampNeg <;> simp [fh_sR, fh_up, va_up, hk]) (fun j hj => fh_e_cong (fun _ => rfl) (fun _ => rfl) (fun k => fh_up_ne _ _ hj k))] at hP
    exact hP
  · refine va_astq C.1.1 C.1.2.1 C.2.1.1 hR.1 (fh_D C.2.2 h _) hR.2 i 3 j 6 (by rw [fh_w_at S g h (fh_kq_lt hi), fh_e_16 g h (fh_kq_k hi)]) rfl (by rw [fh_w_at S g h (fh_kq_lt hj), fh_e_ob g h (fh_kq_k hj) (by decide)]) (r := (RX6, TX6, 9)) rfl (fh_in_vp hin) hdg (fun H1 locs1 hP _ hS => kk H1 locs1 ⟨?_, hS⟩)
    rw [fh_w_set (h := h) (h' := fh_sR h i x.toNatClampNeg (some j)) (by rw [fh_e_16 g _ (fh_kq_k hi)]; congr 7; funext k; by_cases hk : k = x.toNatClampNeg <;> simp [fh_sR, fh_up, va_up, hk]) (fun j hj => fh_e_cong (fun _ => rfl) (fun _ => rfl) (fun k => fh_up_ne _ _ hj k))] at hP
    exact hP
theorem fr_alen (C : fh_C p m c cc nL s args own S g) (hR : fh_R S g s.heap h H locs) {i ci : Nat} (hi : fh_kq S i ci = true) (hci : ci = 13 ∨ ci = 14 ∨ ci = 15 ∨ ci = 16) (hdg : decode cc pc = .ok (.arraylength, 1))
    (kk : W p l e R s m args below meth c H locs cells slots Q (F0 m (pc + 1) ls (.int (Int32.ofNat (S.2.2 i)) :: rest))) : W p l e R s m args below meth c H locs cells slots Q (F0 m pc ls (.ref (g.2.2 i) :: rest)) := by
  rcases hci with rfl | rfl | rfl | rfl
  · exact va_alen C.1.1 C.1.2.1 C.2.1.1 hR.1 i 0 (by rw [fh_w_at S g h (fh_kq_lt hi), fh_e_13 g h (fh_kq_k hi)]) rfl rfl hdg kk
  · exact va_alen C.1.1 C.1.2.1 C.2.1.1 hR.1 i 1 (by rw [fh_w_at S g h (fh_kq_lt hi), fh_e_14 g h (fh_kq_k hi)]) rfl rfl hdg kk
  · exact va_alen C.1.1 C.1.2.1 C.2.1.1 hR.1 i 2 (by rw [fh_w_at S g h (fh_kq_lt hi), fh_e_15 g h (fh_kq_k hi)]) rfl rfl hdg kk
  · exact va_alen C.1.1 C.1.2.1 C.2.1.1 hR.1 i 3 (by rw [fh_w_at S g h (fh_kq_lt hi), fh_e_16 g h (fh_kq_k hi)]) rfl rfl hdg kk
end FHR
