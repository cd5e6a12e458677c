/-! CONSTRUCTORS, rows: arrays, final fields, calls, ends -/
section FN2
variable {p : Program} {l : Launch} {e : Env} {R : Room} {s : State} {m : MethodId} {args : Array Value} {below : List Frame} {meth : Method} {c : Code} {H : Heap} {locs : List Loc} {cells slots : Nat} {Q : State → Prop}
variable {cc : ByteArray} {pc nL : Nat} {ls : Array Slot} {rest st0 : List Value} {own : String} {S S' : fh_S} {g : fh_G} {h h' : fh_H}
theorem fn_newi {n : Int32} {N : Nat} (C : fh_C p m c cc nL s args own S g) (hR : fh_R S g s.heap h H locs) (hok : fh_ok S h) (harr : Cond.arrayClass .int ∈ fh_U) (hn : ¬ n < 0) (hN : n.toNatClampNeg = N) (hby : N * componentBytes .int ≤ 536870912) (hcells : cells + 1 ≤ R.cells) (hslots : slots + N ≤ R.slots) (hdg : decode cc pc = .ok (.newarray .int, 2))
    (kk : ∀ (S' : fh_S) (h' : fh_H) (g' : fh_G) (H1 : Heap), S' = fh_push S 13 N → h' = fh_z h S.1 → fn_rel S g S' g' s.heap.size → fh_C p m c cc nL s args own S' g' → fh_R S' g' s.heap h' H1 locs → fh_ok S' h' → fh_kq S' S.1 13 = true → W p l e R s m args below meth c H1 locs (cells + 1) (slots + N) Q (F0 m (pc + 2) ls (.ref (g'.2.2 S.1) :: rest))) : W p l e R s m args below meth c H locs cells slots Q (F0 m pc ls (.int n :: rest)) := by
  obtain ⟨⟨hx, hb, hml, hown, hts⟩, ⟨hK, hNn⟩, hj⟩ := id C
  refine va_newa (atype := .int) (ty := .int) (a0 := (N, (.inl (fun _ => 0)))) hx hb (hts _ harr) rfl hK hR.1 (fh_D hj h _) hR.2 (fun q h => Or.inr h) (fun _ => rfl) hn hN hby hcells hslots hdg (fun q cA H1 hK1 hP1 hD1 hS1 => ?_)
  have hcA : cA = g.2.1 13 := by
    have e1 : s.vm.findClass ("[" ++ (FieldType.int).toString) = some cA := (hK1.2 4 (cA, .int) rfl).2
    have e2 : s.vm.findClass ("[" ++ (FieldType.int).toString) = some (g.2.1 13) := (hK.2 0 (g.2.1 13, .int) rfl).2
    exact Option.some.inj (e1.symm.trans e2)
  have hen : (Sum.inl (cA, N, (.inl (fun _ => 0))) : va_E) = fh_e (fh_push S 13 N) (g.1, g.2.1, va_up g.2.2 S.1 q) (fh_z h S.1) S.1 := by
    rw [fh_e_13 _ _ (show (fh_push S 13 N).2.1 S.1 = 13 from va_up_self _ _ _), hcA, show (fh_push S 13 N).2.2 S.1 = N from va_up_self _ _ _, show (fh_z h S.1).1 S.1 = fun _ => 0 from by funext j; simp [fh_z]]
  obtain ⟨k1, k2, k3⟩ := fn_grow hok C hS1 hP1 hD1 hen
  have := kk _ _ _ H1 rfl rfl k3 k1 k2 (fh_ok_push 13 N hok) (fh_kq_new S 13 N)
  rw [show (g.1, g.2.1, va_up g.2.2 S.1 q).2.2 S.1 = q from va_up_self _ _ _] at this
  exact this
theorem fn_newj {n : Int32} {N : Nat} (C : fh_C p m c cc nL s args own S g) (hR : fh_R S g s.heap h H locs) (hok : fh_ok S h) (harr : Cond.arrayClass .long ∈ fh_U) (hn : ¬ n < 0) (hN : n.toNatClampNeg = N) (hby : N * componentBytes .long ≤ 536870912) (hcells : cells + 1 ≤ R.cells) (hslots : slots + N ≤ R.slots) (hdg : decode cc pc = .ok (.newarray .long, 2))
    (kk : ∀ (S' : fh_S) (h' : fh_H) (g' : fh_G) (H1 : Heap), S' = fh_push S 14 N → h' = fh_z h S.1 → fn_rel S g S' g' s.heap.size → fh_C p m c cc nL s args own S' g' → fh_R S' g' s.heap h' H1 locs → fh_ok S' h' → fh_kq S' S.1 14 = true → W p l e R s m args below meth c H1 locs (cells + 1) (slots + N) Q (F0 m (pc + 2) ls (.ref (g'.2.2 S.1) :: rest))) : W p l e R s m args below meth c H locs cells slots Q (F0 m pc ls (.int n :: rest)) := by
  obtain ⟨⟨hx, hb, hml, hown, hts⟩, ⟨hK, hNn⟩, hj⟩ := id C
  refine va_newa (atype := .long) (ty := .long) (a0 := (N, (.inr (.inl (fun _ => 0))))) hx hb (hts _ harr) rfl hK hR.1 (fh_D hj h _) hR.2 (fun q h => Or.inr h) (fun _ => rfl) hn hN hby hcells hslots hdg (fun q cA H1 hK1 hP1 hD1 hS1 => ?_)
  have hcA : cA = g.2.1 14 := by
    have e1 : s.vm.findClass ("[" ++ (FieldType.long).toString) = some cA := (hK1.2 4 (cA, .long) rfl).2
    have e2 : s.vm.findClass ("[" ++ (FieldType.long).toString) = some (g.2.1 14) := (hK.2 1 (g.2.1 14, .long) rfl).2
    exact Option.some.inj (e1.symm.trans e2)
  have hen : (Sum.inl (cA, N, (.inr (.inl (fun _ => 0)))) : va_E) = fh_e (fh_push S 14 N) (g.1, g.2.1, va_up g.2.2 S.1 q) (fh_z h S.1) S.1 := by
    rw [fh_e_14 _ _ (show (fh_push S 14 N).2.1 S.1 = 14 from va_up_self _ _ _), hcA, show (fh_push S 14 N).2.2 S.1 = N from va_up_self _ _ _, show (fh_z h S.1).2.1 S.1 = fun _ => 0 from by funext j; simp [fh_z]]
  obtain ⟨k1, k2, k3⟩ := fn_grow hok C hS1 hP1 hD1 hen
  have := kk _ _ _ H1 rfl rfl k3 k1 k2 (fh_ok_push 14 N hok) (fh_kq_new S 14 N)
  rw [show (g.1, g.2.1, va_up g.2.2 S.1 q).2.2 S.1 = q from va_up_self _ _ _] at this
  exact this
theorem fn_newm {n : Int32} {N idx : Nat} (C : fh_C p m c cc nL s args own S g) (hR : fh_R S g s.heap h H locs) (hok : fh_ok S h) (hkl : Cond.classLink own idx "TermRows$Made" ∈ fh_U) (hover : va_AO "TermRows$Made" s) (hn : ¬ n < 0) (hN : n.toNatClampNeg = N) (hby : N * 4 ≤ 536870912) (hcells : cells + 1 ≤ R.cells) (hslots : slots + N ≤ R.slots) (hdg : decode cc pc = .ok (.anewarray idx, 3))
    (kk : ∀ (S' : fh_S) (h' : fh_H) (g' : fh_G) (H1 : Heap), S' = fh_push S 15 N → h' = fh_z h S.1 → fn_rel S g S' g' s.heap.size → fh_C p m c cc nL s args own S' g' → fh_R S' g' s.heap h' H1 locs → fh_ok S' h' → fh_kq S' S.1 15 = true → W p l e R s m args below meth c H1 locs (cells + 1) (slots + N) Q (F0 m (pc + 3) ls (.ref (g'.2.2 S.1) :: rest))) : W p l e R s m args below meth c H locs cells slots Q (F0 m pc ls (.int n :: rest)) := by
  obtain ⟨⟨hx, hb, hml, hown, hts⟩, ⟨hK, hNn⟩, hj⟩ := id C
  refine va_newq hx hb hown (hts _ hkl) hover hK hR.1 (fh_D hj h _) hR.2 (fun q h => Or.inr h) hn hN hby hcells hslots hdg (fun q cA H1 hK1 hP1 hD1 hS1 => ?_)
  have hcA : cA = g.2.1 15 := by
    obtain ⟨_, _, _, _, _, e1⟩ := (hK1.2 4 (cA, .object "TermRows$Made") rfl).2
    obtain ⟨_, _, _, _, _, e2⟩ := (hK.2 2 (g.2.1 15, .object "TermRows$Made") rfl).2
    exact Option.some.inj (e1.symm.trans e2)
  have hen : (Sum.inl (cA, N, .inr (.inr (.inr (.inr (fun _ => none))))) : va_E) = fh_e (fh_push S 15 N) (g.1, g.2.1, va_up g.2.2 S.1 q) (fh_z h S.1) S.1 := by
    rw [fh_e_15 _ _ (show (fh_push S 15 N).2.1 S.1 = 15 from va_up_self _ _ _), hcA, show (fh_push S 15 N).2.2 S.1 = N from va_up_self _ _ _, show (fun k => ((fh_z h S.1).2.2 S.1 k).map (va_up g.2.2 S.1 q)) = fun _ => none from by funext j; simp [fh_z]]
  obtain ⟨k1, k2, k3⟩ := fn_grow hok C hS1 hP1 hD1 hen
  have := kk _ _ _ H1 rfl rfl k3 k1 k2 (fh_ok_push 15 N hok) (fh_kq_new S 15 N)
  rw [show (g.1, g.2.1, va_up g.2.2 S.1 q).2.2 S.1 = q from va_up_self _ _ _] at this
  exact this
theorem fn_newr {n : Int32} {N idx : Nat} (C : fh_C p m c cc nL s args own S g) (hR : fh_R S g s.heap h H locs) (hok : fh_ok S h) (hkl : Cond.classLink own idx "TermRows$Row" ∈ fh_U) (hover : va_AO "TermRows$Row" s) (hn : ¬ n < 0) (hN : n.toNatClampNeg = N) (hby : N * 4 ≤ 536870912) (hcells : cells + 1 ≤ R.cells) (hslots : slots + N ≤ R.slots) (hdg : decode cc pc = .ok (.anewarray idx, 3))
    (kk : ∀ (S' : fh_S) (h' : fh_H) (g' : fh_G) (H1 : Heap), S' = fh_push S 16 N → h' = fh_z h S.1 → fn_rel S g S' g' s.heap.size → fh_C p m c cc nL s args own S' g' → fh_R S' g' s.heap h' H1 locs → fh_ok S' h' → fh_kq S' S.1 16 = true → W p l e R s m args below meth c H1 locs (cells + 1) (slots + N) Q (F0 m (pc + 3) ls (.ref (g'.2.2 S.1) :: rest))) : W p l e R s m args below meth c H locs cells slots Q (F0 m pc ls (.int n :: rest)) := by
  obtain ⟨⟨hx, hb, hml, hown, hts⟩, ⟨hK, hNn⟩, hj⟩ := id C
  refine va_newq hx hb hown (hts _ hkl) hover hK hR.1 (fh_D hj h _) hR.2 (fun q h => Or.inr h) hn hN hby hcells hslots hdg (fun q cA H1 hK1 hP1 hD1 hS1 => ?_)
  have hcA : cA = g.2.1 16 := by
    obtain ⟨_, _, _, _, _, e1⟩ := (hK1.2 4 (cA, .object "TermRows$Row") rfl).2
    obtain ⟨_, _, _, _, _, e2⟩ := (hK.2 3 (g.2.1 16, .object "TermRows$Row") rfl).2
    exact Option.some.inj (e1.symm.trans e2)
  have hen : (Sum.inl (cA, N, .inr (.inr (.inr (.inr (fun _ => none))))) : va_E) = fh_e (fh_push S 16 N) (g.1, g.2.1, va_up g.2.2 S.1 q) (fh_z h S.1) S.1 := by
    rw [fh_e_16 _ _ (show (fh_push S 16 N).2.1 S.1 = 16 from va_up_self _ _ _), hcA, show (fh_push S 16 N).2.2 S.1 = N from va_up_self _ _ _, show (fun k => ((fh_z h S.1).2.2 S.1 k).map (va_up g.2.2 S.1 q)) = fun _ => none from by funext j; simp [fh_z]]
  obtain ⟨k1, k2, k3⟩ := fn_grow hok C hS1 hP1 hD1 hen
  have := kk _ _ _ H1 rfl rfl k3 k1 k2 (fh_ok_push 16 N hok) (fh_kq_new S 16 N)
  rw [show (g.1, g.2.1, va_up g.2.2 S.1 q).2.2 S.1 = q from va_up_self _ _ _] at this
  exact this
def fh_Ff (own : String) (idx ci k : Nat) (ty : FieldType) : Prop := ∃ (C : String) (T : u_T) (N : Nat) (t0 : Nat → FieldType), vwCl[ci]? = some (C, T, N) ∧ k < N ∧ Cond.fieldLink own idx (T k).1 (T k).2.1 (T k).2.2.1 ∈ fh_U ∧ (∀ w ∈ u_ws C T N, w ∈ fh_U) ∧ N = fh_nf ci ∧ ci < 13 ∧
  (∀ k, k < N → parseFieldDescriptor (T k).2.2.1 = some (t0 k)) ∧ (∀ a, a < N → ∀ b, b < N → a ≠ b → (T a).2.1 ≠ (T b).2.1) ∧ (T k).2.2.2 = true ∧ parseFieldDescriptor (T k).2.2.1 = some ty ∧ (T k).1 = own
theorem fn_putF (C : fh_C p m c cc nL s args own S g) (hR : fh_R S g s.heap h H locs) (hin : meth.name = "<init>") {i ci k idx : Nat} {ty : FieldType} {v : Value} {h' : fh_H} (hi : fh_kq S i ci = true) (F : fh_Ff own idx ci k ty) (hn : narrow ty v = v) (hfit : fits ty v = true)
    (e1 : fh_v g h' ci i k = v) (e2 : ∀ j, j ≠ k → fh_v g h' ci i j = fh_v g h ci i j) (e3 : ∀ j, j ≠ i → fh_e S g h' j = fh_e S g h j) (hdg : decode cc pc = .ok (.putfield idx, 3))
    (kk : ∀ (H1 : Heap) (locs1 : List Loc), fh_R S g s.heap h' H1 locs1 → W p l e R s m args below meth c H1 locs1 cells slots Q (F0 m (pc + 3) ls rest)) : W p l e R s m args below meth c H locs cells slots Q (F0 m pc ls (v :: .ref (g.2.2 i) :: rest)) := by
  obtain ⟨Cn, T, N, t0, h1, h2, h3, h4, h5, h6, h7, h8, h9, h10, h11⟩ := F
  obtain ⟨⟨hx, hb, hml, hown, hts⟩, ⟨hK, -⟩, hj⟩ := C
  refine va_putF hx hb hts h4 t0 h7 h8 hown hK hR.1 (fh_D hj h _) hR.2 i (fs := (List.range (fh_nf ci)).map (fh_v g h ci i)) (by rw [fh_w_at S g h (fh_kq_lt hi), fh_e_ob g h (fh_kq_k hi) h6]) h1 k h2 (hts _ h3) (fun _ q => q) h9 hin h11 h10 hn hfit (by simpa [← h5] using h2) hdg (fun H1 locs1 hP _ hS => kk H1 locs1 ⟨?_, hS⟩)
  rw [fh_set_range _ _ _ (fh_v g h' ci i) _ e1 e2, fh_w_set (h' := h') (fh_e_ob g h' (fh_kq_k hi) h6) e3] at hP
  exact hP
theorem fn_putfr (C : fh_C p m c cc nL s args own S g) (hR : fh_R S g s.heap h H locs) (hin : meth.name = "<init>") {i ci k idx j : Nat} {ty : FieldType} (hi : fh_kq S i ci = true) (F : fh_Ff own idx ci k ty) (hs : fh_s ci k = 2) (hn : narrow ty (.ref (g.2.2 j)) = .ref (g.2.2 j)) (hfit : fits ty (.ref (g.2.2 j)) = true) (hdg : decode cc pc = .ok (.putfield idx, 3))
    (kk : ∀ (H1 : Heap) (locs1 : List Loc), fh_R S g s.heap (fh_sR h i k (some j)) H1 locs1 → W p l e R s m args below meth c H1 locs1 cells slots Q (F0 m (pc + 3) ls rest)) : W p l e R s m args below meth c H locs cells slots Q (F0 m pc ls (.ref (g.2.2 j) :: .ref (g.2.2 i) :: rest)) :=
  fn_putF (h' := fh_sR h i k (some j)) C hR hin hi F hn hfit (by simp [fh_v, hs, fh_sR, fh_up, va_rf]) (fun j hj => by simp [fh_v, fh_sR, fh_up, hj]) (fun j hj => fh_e_cong (fun _ => rfl) (fun _ => rfl) (fun k => fh_up_ne _ _ hj k)) hdg kk
theorem fn_putfi (C : fh_C p m c cc nL s args own S g) (hR : fh_R S g s.heap h H locs) (hin : meth.name = "<init>") {i ci k idx : Nat} {v : Int32} (hi : fh_kq S i ci = true) (F : fh_Ff own idx ci k .int) (hs : fh_s ci k = 0) (hdg : decode cc pc = .ok (.putfield idx, 3))
    (kk : ∀ (H1 : Heap) (locs1 : List Loc), fh_R S g s.heap (fh_sI h i k v) H1 locs1 → W p l e R s m args below meth c H1 locs1 cells slots Q (F0 m (pc + 3) ls rest)) : W p l e R s m args below meth c H locs cells slots Q (F0 m pc ls (.int v :: .ref (g.2.2 i) :: rest)) :=
  fn_putF (h' := fh_sI h i k v) C hR hin hi F rfl rfl (by simp [fh_v, hs, fh_sI, fh_up]) (fun j hj => by simp [fh_v, fh_sI, fh_up, hj]) (fun j hj => fh_e_cong (fun k => fh_up_ne _ _ hj k) (fun _ => rfl) (fun _ => rfl)) hdg kk
theorem fn_run {k n : Nat} {a : Array Value} (C : fh_C p m c cc nL s args own S g) (hR : fh_R S g s.heap h H locs) (hr : va_Run p l e R s m args below meth c H locs cells slots k n (F0 m pc ls st0) rest (fc_Q S g H.size S' h' a) (fh_A S g H.size))
    (kk : ∀ (g' : fh_G) (H1 : Heap) (locs1 : List Loc), fn_rel S g S' g' s.heap.size → fh_C p m c cc nL s args own S' g' → fh_R S' g' s.heap h' H1 locs1 → fh_ok S' h' → W p l e R s m args below meth c H1 locs1 (cells + k) (slots + n) Q (F0 m (pc + 3) ls rest)) : W p l e R s m args below meth c H locs cells slots Q (F0 m pc ls st0) := by
  intro T hT X
  obtain ⟨v0, st₀, t, T', L, h0, X', hL, e1, e2, ⟨hv, g', hrel, hinj, hok, hp, hz, hk⟩, st⟩ := hr T hT X
  cases hv
  rw [h0] at hz hk
  have hS := hR.2
  have hA : ∀ q, fh_A S g s.heap.size q → fh_A S' g' s.heap.size q := fun q hq => hq.elim (fun ⟨i, hi, e⟩ => Or.inl ⟨i, Nat.lt_of_lt_of_le hi hrel.1, by rw [e, hrel.2.2.2.1 i hi]⟩) Or.inr
  have hrel2 : fn_rel S g S' g' s.heap.size := ⟨hrel.1, hrel.2.1, hrel.2.2.1, hrel.2.2.2.1, fun i a b => Nat.le_trans hS.1 (hrel.2.2.2.2 i a b)⟩
  obtain ⟨t2, a1, b1⟩ := kk g' T'.heap (locs ++ L) hrel2 ⟨C.1, by
      obtain ⟨q1, q2⟩ := C.2.1
      exact ⟨by rw [hrel.2.1]; unfold fh_ty; rw [hrel.2.2.1]; exact q1, q2⟩, hinj⟩ ⟨by rw [e1]; exact hp, Nat.le_trans hS.1 (by rw [e1]; exact hz), fun q h1 h2 => by
      rw [e1, hk q (Nat.lt_of_lt_of_le h1 hS.1) (fun z => h2 (hA q (fh_A_le hS.1 z)))]; exact hS.2.1 q h1 (fun z => h2 (hA q z)), fun q hq => by
      rcases List.mem_append.mp hq with z | z
      · exact hA _ (hS.2.2 q z)
      · exact hA _ (fh_A_le hS.1 (hL q z))⟩ hok T' rfl X'
  exact ⟨t2, st t2 a1, b1⟩
theorem fn_cI {y : MethodName} {bc : ByteArray} {mL np d k n idx i : Nat} {As : List Value} (C : fh_C p m c cc nL s args own S g) (hN : fc_N s) (hR : fh_R S g s.heap h H locs) (hM : fc_M l y bc mL d k n S g (.ref (g.2.2 i) :: As) h S' h') (Y : fh_Y y bc mL none np) (hyn : y.name = "<init>") (YI : Cond.instanceMethod y ∈ fh_U) (lk : Cond.methodLink own idx y ∈ fh_U)
    (hn : As.length = np) (hsz : ls.size = nL) (hrm : d + 21 ≤ R.frames ∧ mL + (60 * d + 619) ≤ R.locals) (hst : st0 = As.reverse ++ .ref (g.2.2 i) :: rest) (hW : (rest.map fun v => v.category).sum ≤ 8) (hcap : cells + k ≤ R.cells ∧ slots + n ≤ R.slots) (hdg : decode cc pc = .ok (.invokespecial idx, 3))
    (kk : ∀ (g' : fh_G) (H1 : Heap) (locs1 : List Loc), fn_rel S g S' g' s.heap.size → fh_C p m c cc nL s args own S' g' → fh_R S' g' s.heap h' H1 locs1 → fh_ok S' h' → W p l e R s m args below meth c H1 locs1 (cells + k) (slots + n) Q (F0 m (pc + 3) ls rest)) : W p l e R s m args below meth c H locs cells slots Q (F0 m pc ls st0) := by
  subst hst
  obtain ⟨Y1, Y2, Y3, Y4, Y5⟩ := Y
  have hcw : CallB R s args own idx y bc mL none (.code y bc mL none :: fh_U) (fc_rm d k n) k n np := callB_of np C.1.2.2.2.2 (fh_gdc Y1) rfl rfl rfl (C.1.2.2.2.2 _ Y2) (C.1.2.2.2.2 _ lk) ⟨Y3, Y4, Y5⟩ ⟨by show d + 20 + 1 ≤ _; omega, by show 8 + (mL + 11) + (60 * d + 600) ≤ _; omega⟩
  exact fn_run C hR (va_runI C.1 (hM H.size) ⟨hcw, hyn, C.1.2.2.2.2 _ YI⟩ ⟨fc_blind S g _ _ h, fun U hU hW => ⟨rfl, by rw [hU], by rw [hU]; exact hR.1, C.2.1.warm hW, hN.warm hW⟩⟩ rfl hn hsz rfl (lv_room hW) hdg hcap) kk
theorem fn_cN {y : MethodName} {host : String} {bc : ByteArray} {mL np d k n idx i : Nat} {As : List Value} (C : fh_C p m c cc nL s args own S g) (hN : fc_N s) (hR : fh_R S g s.heap h H locs) (hM : fc_M l y bc mL d k n S g (.ref (g.2.2 i) :: As) h S' h') (Y : fh_Y y bc mL none np) (hyn : y.name = "<init>") (YI : Cond.instanceMethod y ∈ fh_U) (lk : va_Nw (.methodLinkNest own idx y host) s)
    (hn : As.length = np) (hsz : ls.size = nL) (hrm : d + 21 ≤ R.frames ∧ mL + (60 * d + 619) ≤ R.locals) (hst : st0 = As.reverse ++ .ref (g.2.2 i) :: rest) (hW : (rest.map fun v => v.category).sum ≤ 8) (hcap : cells + k ≤ R.cells ∧ slots + n ≤ R.slots) (hdg : decode cc pc = .ok (.invokespecial idx, 3))
    (kk : ∀ (g' : fh_G) (H1 : Heap) (locs1 : List Loc), fn_rel S g S' g' s.heap.size → fh_C p m c cc nL s args own S' g' → fh_R S' g' s.heap h' H1 locs1 → fh_ok S' h' → W p l e R s m args below meth c H1 locs1 (cells + k) (slots + n) Q (F0 m (pc + 3) ls rest)) : W p l e R s m args below meth c H locs cells slots Q (F0 m pc ls st0) := by
  subst hst
  obtain ⟨Y1, Y2, Y3, Y4, Y5⟩ := Y
  have hcw : va_CN R s args own idx y host bc mL none (.code y bc mL none :: fh_U) (fc_rm d k n) k n np := va_cnB np C.1.2.2.2.2 (fh_gdc Y1) rfl rfl rfl lk (C.1.2.2.2.2 _ Y2) ⟨Y3, Y4, Y5⟩ ⟨by show d + 20 + 1 ≤ _; omega, by show 8 + (mL + 11) + (60 * d + 600) ≤ _; omega⟩
  exact fn_run C hR (va_runIN C.1 (hM H.size) ⟨hcw, hyn, C.1.2.2.2.2 _ YI⟩ ⟨fc_blind S g _ _ h, fun U hU hW => ⟨rfl, by rw [hU], by rw [hU]; exact hR.1, C.2.1.warm hW, hN.warm hW⟩⟩ rfl hn hsz rfl (lv_room hW) hdg hcap) kk
theorem fn_ret {S0 : fh_S} {g0 : fh_G} {k n : Nat} {ev : Env} (C : fh_C p m c cc nL s args own S g) (hr : meth.sig.returnType = none) (hlocks : meth.locks = false) (hR : fh_R S g s.heap h H locs) (hok : fh_ok S h) (hE : fn_rel S0 g0 S g s.heap.size) (e : some (S, h) = some (S', h')) (hc : cells ≤ k) (hs : slots ≤ n) (hdg : decode cc pc = .ok (.return_, 1)) :
    W p l ev R s m args below meth c H locs cells slots (MQ below (fc_Q S0 g0 s.heap.size S' h') args s k n (fh_A S0 g0 s.heap.size)) (F0 m pc ls []) := by
  cases e
  have hA : ∀ q, fh_A S g s.heap.size q → fh_A S0 g0 s.heap.size q := fun q hq => by
    rcases hq with ⟨i, hi, e⟩ | z
    · rcases Nat.lt_or_ge i S0.1 with a | a
      · exact Or.inl ⟨i, a, by rw [e, hE.2.2.2.1 i a]⟩
      · exact Or.inr (by rw [e]; exact hE.2.2.2.2 i a hi)
    · exact Or.inr z
  refine W.widen hc hs (W.vret C.1.1 C.1.2.1 hr (fun t ht hW => ⟨rfl, g, hE, C.2.2, hok, by rw [ht]; exact hR.1, by rw [ht]; exact hR.2.1, fun q h1 h2 => by rw [ht]; exact hR.2.2.1 q h1 (fun z => h2 (hA q z))⟩) (fun q hq => hA _ (hR.2.2.2 q hq)) hdg hlocks)
end FN2
theorem Ai_int : Cond.arrayClass .int ∈ fh_U := fh_at 84 (by decide +kernel) rfl
theorem Ai_long : Cond.arrayClass .long ∈ fh_U := fh_at 1438 (by decide +kernel) rfl
theorem Ob_RX0 : Cond.methodLink RX0 3 objectInit ∈ fh_U := fh_at 161 (by decide +kernel) rfl
theorem YI_X0_init : Cond.instanceMethod yX0_init ∈ fh_U := fh_at 159 (by decide +kernel) rfl
theorem Ob_RX1 : Cond.methodLink RX1 3 objectInit ∈ fh_U := fh_at 131 (by decide +kernel) rfl
theorem Kl_RX1_9 : Cond.classLink RX1 9 "TermRows$Row" ∈ fh_U := fh_at 132 (by decide +kernel) rfl
theorem Fq_RX1_11 : fh_Ff RX1 11 1 0 (.array (.object "TermRows$Row")) := ⟨RX1, TX1, 4, tyX1, rfl, by decide, fh_at 136 (by decide +kernel) rfl, ix_1, rfl, by decide, tyX1_ok, nmX1, rfl, by decide +kernel, rfl⟩
theorem Kl_RX1_17 : Cond.classLink RX1 17 "TermRows$Made" ∈ fh_U := fh_at 133 (by decide +kernel) rfl
theorem Fq_RX1_19 : fh_Ff RX1 19 1 1 (.array (.object "TermRows$Made")) := ⟨RX1, TX1, 4, tyX1, rfl, by decide, fh_at 137 (by decide +kernel) rfl, ix_1, rfl, by decide, tyX1_ok, nmX1, rfl, by decide +kernel, rfl⟩
theorem Kn_RX1_17 : fn_K RX1 17 3 := ⟨RX3, TX3, 9, tyX3, rfl, ix_3, tyX3_ok, fh_at 133 (by decide +kernel) rfl, fh_at 41 (by decide +kernel) rfl, fh_at 3 (by decide +kernel) rfl, rfl, by decide, by decide +kernel⟩
theorem YI_X1_init : Cond.instanceMethod yX1_init ∈ fh_U := fh_at 129 (by decide +kernel) rfl
theorem Ob_RX2 : Cond.methodLink RX2 3 objectInit ∈ fh_U := fh_at 239 (by decide +kernel) rfl
theorem YI_X2_init : Cond.instanceMethod yX2_init ∈ fh_U := fh_at 237 (by decide +kernel) rfl
theorem Ob_RX3 : Cond.methodLink RX3 3 objectInit ∈ fh_U := fh_at 45 (by decide +kernel) rfl
theorem Fq_RX3_18 : fh_Ff RX3 18 3 8 (.array .int) := ⟨RX3, TX3, 9, tyX3, rfl, by decide, fh_at 62 (by decide +kernel) rfl, ix_3, rfl, by decide, tyX3_ok, nmX3, rfl, by decide +kernel, rfl⟩
theorem YI_X3_init : Cond.instanceMethod yX3_init ∈ fh_U := fh_at 43 (by decide +kernel) rfl
theorem Ob_RX4 : Cond.methodLink RX4 3 objectInit ∈ fh_U := fh_at 324 (by decide +kernel) rfl
theorem Fq_RX4_9 : fh_Ff RX4 9 4 0 (.object "TermRows$Tape") := ⟨RX4, TX4, 3, tyX4, rfl, by decide, fh_at 325 (by decide +kernel) rfl, ix_4, rfl, by decide, tyX4_ok, nmX4, rfl, by decide +kernel, rfl⟩
theorem YI_X4_init : Cond.instanceMethod yX4_init ∈ fh_U := fh_at 322 (by decide +kernel) rfl
theorem Ob_RX5 : Cond.methodLink RX5 3 objectInit ∈ fh_U := fh_at 155 (by decide +kernel) rfl
theorem Kn_RX5_9 : fn_K RX5 9 0 := ⟨RX0, TX0, 4, tyX0, rfl, ix_0, tyX0_ok, fh_at 156 (by decide +kernel) rfl, fh_at 157 (by decide +kernel) rfl, fh_at 6 (by decide +kernel) rfl, rfl, by decide, by decide +kernel⟩
theorem YI_X5_init : Cond.instanceMethod yX5_init ∈ fh_U := fh_at 153 (by decide +kernel) rfl
theorem Ob_RX6 : Cond.methodLink RX6 3 objectInit ∈ fh_U := fh_at 39 (by decide +kernel) rfl
theorem Fq_RX6_9 : fh_Ff RX6 9 6 1 (.array .int) := ⟨RX6, TX6, 9, tyX6, rfl, by decide, fh_at 87 (by decide +kernel) rfl, ix_6, rfl, by decide, tyX6_ok, nmX6, rfl, by decide +kernel, rfl⟩
theorem Fq_RX6_15 : fh_Ff RX6 15 6 2 (.array .int) := ⟨RX6, TX6, 9, tyX6, rfl, by decide, fh_at 88 (by decide +kernel) rfl, ix_6, rfl, by decide, tyX6_ok, nmX6, rfl, by decide +kernel, rfl⟩
theorem Fq_RX6_18 : fh_Ff RX6 18 6 3 (.array .int) := ⟨RX6, TX6, 9, tyX6, rfl, by decide, fh_at 89 (by decide +kernel) rfl, ix_6, rfl, by decide, tyX6_ok, nmX6, rfl, by decide +kernel, rfl⟩
theorem Kn_RX6_21 : fn_K RX6 21 3 := ⟨RX3, TX3, 9, tyX3, rfl, ix_3, tyX3_ok, fh_at 40 (by decide +kernel) rfl, fh_at 41 (by decide +kernel) rfl, fh_at 3 (by decide +kernel) rfl, rfl, by decide, by decide +kernel⟩
theorem Fq_RX6_32 : fh_Ff RX6 32 6 0 (.int) := ⟨RX6, TX6, 9, tyX6, rfl, by decide, fh_at 85 (by decide +kernel) rfl, ix_6, rfl, by decide, tyX6_ok, nmX6, rfl, by decide +kernel, rfl⟩
theorem YI_X6_init : Cond.instanceMethod yX6_init ∈ fh_U := fh_at 37 (by decide +kernel) rfl
theorem Ob_RX7 : Cond.methodLink RX7 3 objectInit ∈ fh_U := fh_at 304 (by decide +kernel) rfl
theorem Fq_RX7_9 : fh_Ff RX7 9 7 1 (.array .int) := ⟨RX7, TX7, 4, tyX7, rfl, by decide, fh_at 306 (by decide +kernel) rfl, ix_7, rfl, by decide, tyX7_ok, nmX7, rfl, by decide +kernel, rfl⟩
theorem Fq_RX7_15 : fh_Ff RX7 15 7 0 (.object "TermRows$Tape") := ⟨RX7, TX7, 4, tyX7, rfl, by decide, fh_at 305 (by decide +kernel) rfl, ix_7, rfl, by decide, tyX7_ok, nmX7, rfl, by decide +kernel, rfl⟩
theorem YI_X7_init : Cond.instanceMethod yX7_init ∈ fh_U := fh_at 302 (by decide +kernel) rfl
theorem Ob_RX8 : Cond.methodLink RX8 3 objectInit ∈ fh_U := fh_at 340 (by decide +kernel) rfl
theorem Fq_RX8_9 : fh_Ff RX8 9 8 0 (.array .int) := ⟨RX8, TX8, 2, tyX8, rfl, by decide, fh_at 341 (by decide +kernel) rfl, ix_8, rfl, by decide, tyX8_ok, nmX8, rfl, by decide +kernel, rfl⟩
theorem YI_X8_init : Cond.instanceMethod yX8_init ∈ fh_U := fh_at 338 (by decide +kernel) rfl
theorem Ob_RX9 : Cond.methodLink RX9 1 objectInit ∈ fh_U := fh_at 218 (by decide +kernel) rfl
theorem YI_X9_init : Cond.instanceMethod yX9_init ∈ fh_U := fh_at 216 (by decide +kernel) rfl
theorem Ob_RX10 : Cond.methodLink RX10 3 objectInit ∈ fh_U := fh_at 266 (by decide +kernel) rfl
theorem Fq_RX10_9 : fh_Ff RX10 9 10 0 (.array .int) := ⟨RX10, TX10, 9, tyX10, rfl, by decide, fh_at 267 (by decide +kernel) rfl, ix_10, rfl, by decide, tyX10_ok, nmX10, rfl, by decide +kernel, rfl⟩
theorem Fq_RX10_15 : fh_Ff RX10 15 10 1 (.array .int) := ⟨RX10, TX10, 9, tyX10, rfl, by decide, fh_at 268 (by decide +kernel) rfl, ix_10, rfl, by decide, tyX10_ok, nmX10, rfl, by decide +kernel, rfl⟩
theorem Fq_RX10_18 : fh_Ff RX10 18 10 2 (.array .int) := ⟨RX10, TX10, 9, tyX10, rfl, by decide, fh_at 269 (by decide +kernel) rfl, ix_10, rfl, by decide, tyX10_ok, nmX10, rfl, by decide +kernel, rfl⟩
theorem Fq_RX10_21 : fh_Ff RX10 21 10 3 (.array .int) := ⟨RX10, TX10, 9, tyX10, rfl, by decide, fh_at 270 (by decide +kernel) rfl, ix_10, rfl, by decide, tyX10_ok, nmX10, rfl, by decide +kernel, rfl⟩
theorem YI_X10_init : Cond.instanceMethod yX10_init ∈ fh_U := fh_at 264 (by decide +kernel) rfl
theorem Ob_RX11 : Cond.methodLink RX11 3 objectInit ∈ fh_U := fh_at 30 (by decide +kernel) rfl
theorem Kl_RX11_9 : Cond.classLink RX11 9 "TermRows$Row" ∈ fh_U := fh_at 33 (by decide +kernel) rfl
theorem Fq_RX11_11 : fh_Ff RX11 11 11 0 (.array (.object "TermRows$Row")) := ⟨RX11, TX11, 10, tyX11, rfl, by decide, fh_at 349 (by decide +kernel) rfl, ix_11, rfl, by decide, tyX11_ok, nmX11, rfl, by decide +kernel, rfl⟩
theorem Kn_RX11_9 : fn_K RX11 9 6 := ⟨RX6, TX6, 9, tyX6, rfl, ix_6, tyX6_ok, fh_at 33 (by decide +kernel) rfl, fh_at 35 (by decide +kernel) rfl, fh_at 2 (by decide +kernel) rfl, rfl, by decide, by decide +kernel⟩
theorem Lk_RX11_15 : Cond.methodLink RX11 15 yX6_init ∈ fh_U := fh_at 36 (by decide +kernel) rfl
theorem Fq_RX11_18 : fh_Ff RX11 18 11 1 (.object "TermRows$Row") := ⟨RX11, TX11, 10, tyX11, rfl, by decide, fh_at 350 (by decide +kernel) rfl, ix_11, rfl, by decide, tyX11_ok, nmX11, rfl, by decide +kernel, rfl⟩
theorem Kn_RX11_22 : fn_K RX11 22 1 := ⟨RX1, TX1, 4, tyX1, rfl, ix_1, tyX1_ok, fh_at 126 (by decide +kernel) rfl, fh_at 127 (by decide +kernel) rfl, fh_at 4 (by decide +kernel) rfl, rfl, by decide, by decide +kernel⟩
theorem Lk_RX11_24 : Cond.methodLink RX11 24 yX1_init ∈ fh_U := fh_at 128 (by decide +kernel) rfl
theorem Fq_RX11_25 : fh_Ff RX11 25 11 2 (.object "TermRows$History") := ⟨RX11, TX11, 10, tyX11, rfl, by decide, fh_at 351 (by decide +kernel) rfl, ix_11, rfl, by decide, tyX11_ok, nmX11, rfl, by decide +kernel, rfl⟩
theorem Kn_RX11_29 : fn_K RX11 29 5 := ⟨RX5, TX5, 11, tyX5, rfl, ix_5, tyX5_ok, fh_at 150 (by decide +kernel) rfl, fh_at 151 (by decide +kernel) rfl, fh_at 5 (by decide +kernel) rfl, rfl, by decide, by decide +kernel⟩
theorem Fq_RX11_32 : fh_Ff RX11 32 11 3 (.object "TermRows$Reckoner") := ⟨RX11, TX11, 10, tyX11, rfl, by decide, fh_at 352 (by decide +kernel) rfl, ix_11, rfl, by decide, tyX11_ok, nmX11, rfl, by decide +kernel, rfl⟩
theorem Kn_RX11_36 : fn_K RX11 36 9 := ⟨RX9, TX9, 4, tyX9, rfl, ix_9, tyX9_ok, fh_at 213 (by decide +kernel) rfl, fh_at 214 (by decide +kernel) rfl, fh_at 7 (by decide +kernel) rfl, rfl, by decide, by decide +kernel⟩
theorem Fq_RX11_39 : fh_Ff RX11 39 11 4 (.object "TermRows$Surd") := ⟨RX11, TX11, 10, tyX11, rfl, by decide, fh_at 353 (by decide +kernel) rfl, ix_11, rfl, by decide, tyX11_ok, nmX11, rfl, by decide +kernel, rfl⟩
theorem Kn_RX11_43 : fn_K RX11 43 2 := ⟨RX2, TX2, 5, tyX2, rfl, ix_2, tyX2_ok, fh_at 234 (by decide +kernel) rfl, fh_at 235 (by decide +kernel) rfl, fh_at 8 (by decide +kernel) rfl, rfl, by decide, by decide +kernel⟩
theorem Fq_RX11_46 : fh_Ff RX11 46 11 5 (.object "TermRows$Ladder") := ⟨RX11, TX11, 10, tyX11, rfl, by decide, fh_at 354 (by decide +kernel) rfl, ix_11, rfl, by decide, tyX11_ok, nmX11, rfl, by decide +kernel, rfl⟩
theorem Kn_RX11_50 : fn_K RX11 50 10 := ⟨RX10, TX10, 9, tyX10, rfl, ix_10, tyX10_ok, fh_at 261 (by decide +kernel) rfl, fh_at 262 (by decide +kernel) rfl, fh_at 9 (by decide +kernel) rfl, rfl, by decide, by decide +kernel⟩
theorem Fq_RX11_53 : fh_Ff RX11 53 11 6 (.object "TermRows$Tape") := ⟨RX11, TX11, 10, tyX11, rfl, by decide, fh_at 355 (by decide +kernel) rfl, ix_11, rfl, by decide, tyX11_ok, nmX11, rfl, by decide +kernel, rfl⟩
theorem Kn_RX11_57 : fn_K RX11 57 7 := ⟨RX7, TX7, 4, tyX7, rfl, ix_7, tyX7_ok, fh_at 299 (by decide +kernel) rfl, fh_at 300 (by decide +kernel) rfl, fh_at 10 (by decide +kernel) rfl, rfl, by decide, by decide +kernel⟩
theorem Lk_RX11_59 : Cond.methodLink RX11 59 yX7_init ∈ fh_U := fh_at 301 (by decide +kernel) rfl
theorem Fq_RX11_62 : fh_Ff RX11 62 11 7 (.object "TermRows$RowText") := ⟨RX11, TX11, 10, tyX11, rfl, by decide, fh_at 356 (by decide +kernel) rfl, ix_11, rfl, by decide, tyX11_ok, nmX11, rfl, by decide +kernel, rfl⟩
theorem Kn_RX11_66 : fn_K RX11 66 4 := ⟨RX4, TX4, 3, tyX4, rfl, ix_4, tyX4_ok, fh_at 319 (by decide +kernel) rfl, fh_at 320 (by decide +kernel) rfl, fh_at 11 (by decide +kernel) rfl, rfl, by decide, by decide +kernel⟩
theorem Lk_RX11_68 : Cond.methodLink RX11 68 yX4_init ∈ fh_U := fh_at 321 (by decide +kernel) rfl
theorem Fq_RX11_69 : fh_Ff RX11 69 11 8 (.object "TermRows$Question") := ⟨RX11, TX11, 10, tyX11, rfl, by decide, fh_at 357 (by decide +kernel) rfl, ix_11, rfl, by decide, tyX11_ok, nmX11, rfl, by decide +kernel, rfl⟩
theorem Kn_RX11_73 : fn_K RX11 73 8 := ⟨RX8, TX8, 2, tyX8, rfl, ix_8, tyX8_ok, fh_at 335 (by decide +kernel) rfl, fh_at 336 (by decide +kernel) rfl, fh_at 12 (by decide +kernel) rfl, rfl, by decide, by decide +kernel⟩
theorem Fq_RX11_76 : fh_Ff RX11 76 11 9 (.object "TermRows$Saying") := ⟨RX11, TX11, 10, tyX11, rfl, by decide, fh_at 358 (by decide +kernel) rfl, ix_11, rfl, by decide, tyX11_ok, nmX11, rfl, by decide +kernel, rfl⟩
theorem YI_X11_init : Cond.instanceMethod yX11_init ∈ fh_U := fh_at 28 (by decide +kernel) rfl
theorem Ob_RX12 : Cond.methodLink RX12 1 objectInit ∈ fh_U := fh_at 1143 (by decide +kernel) rfl
theorem Fq_RX12_9 : fh_Ff RX12 9 12 0 (.array .int) := ⟨RX12, TX12, 49, tyX12, rfl, by decide, fh_at 1290 (by decide +kernel) rfl, ix_12, rfl, by decide, tyX12_ok, nmX12, rfl, by decide +kernel, rfl⟩
theorem Fq_RX12_13 : fh_Ff RX12 13 12 1 (.array .int) := ⟨RX12, TX12, 49, tyX12, rfl, by decide, fh_at 1291 (by decide +kernel) rfl, ix_12, rfl, by decide, tyX12_ok, nmX12, rfl, by decide +kernel, rfl⟩
theorem Fq_RX12_16 : fh_Ff RX12 16 12 4 (.array .int) := ⟨RX12, TX12, 49, tyX12, rfl, by decide, fh_at 1294 (by decide +kernel) rfl, ix_12, rfl, by decide, tyX12_ok, nmX12, rfl, by decide +kernel, rfl⟩
theorem Fq_RX12_19 : fh_Ff RX12 19 12 5 (.array .int) := ⟨RX12, TX12, 49, tyX12, rfl, by decide, fh_at 1295 (by decide +kernel) rfl, ix_12, rfl, by decide, tyX12_ok, nmX12, rfl, by decide +kernel, rfl⟩
theorem Fq_RX12_22 : fh_Ff RX12 22 12 6 (.array .int) := ⟨RX12, TX12, 49, tyX12, rfl, by decide, fh_at 1296 (by decide +kernel) rfl, ix_12, rfl, by decide, tyX12_ok, nmX12, rfl, by decide +kernel, rfl⟩
theorem Fq_RX12_25 : fh_Ff RX12 25 12 7 (.array .int) := ⟨RX12, TX12, 49, tyX12, rfl, by decide, fh_at 1297 (by decide +kernel) rfl, ix_12, rfl, by decide, tyX12_ok, nmX12, rfl, by decide +kernel, rfl⟩
theorem Fq_RX12_28 : fh_Ff RX12 28 12 8 (.array .int) := ⟨RX12, TX12, 49, tyX12, rfl, by decide, fh_at 1298 (by decide +kernel) rfl, ix_12, rfl, by decide, tyX12_ok, nmX12, rfl, by decide +kernel, rfl⟩
theorem Fq_RX12_31 : fh_Ff RX12 31 12 9 (.array .int) := ⟨RX12, TX12, 49, tyX12, rfl, by decide, fh_at 1299 (by decide +kernel) rfl, ix_12, rfl, by decide, tyX12_ok, nmX12, rfl, by decide +kernel, rfl⟩
theorem Fq_RX12_34 : fh_Ff RX12 34 12 10 (.array .long) := ⟨RX12, TX12, 49, tyX12, rfl, by decide, fh_at 1300 (by decide +kernel) rfl, ix_12, rfl, by decide, tyX12_ok, nmX12, rfl, by decide +kernel, rfl⟩
theorem Fq_RX12_38 : fh_Ff RX12 38 12 11 (.array .long) := ⟨RX12, TX12, 49, tyX12, rfl, by decide, fh_at 1301 (by decide +kernel) rfl, ix_12, rfl, by decide, tyX12_ok, nmX12, rfl, by decide +kernel, rfl⟩
theorem Fq_RX12_41 : fh_Ff RX12 41 12 13 (.array .long) := ⟨RX12, TX12, 49, tyX12, rfl, by decide, fh_at 1303 (by decide +kernel) rfl, ix_12, rfl, by decide, tyX12_ok, nmX12, rfl, by decide +kernel, rfl⟩
theorem Fq_RX12_44 : fh_Ff RX12 44 12 14 (.array .long) := ⟨RX12, TX12, 49, tyX12, rfl, by decide, fh_at 1304 (by decide +kernel) rfl, ix_12, rfl, by decide, tyX12_ok, nmX12, rfl, by decide +kernel, rfl⟩
theorem Fq_RX12_47 : fh_Ff RX12 47 12 26 (.array .long) := ⟨RX12, TX12, 49, tyX12, rfl, by decide, fh_at 1316 (by decide +kernel) rfl, ix_12, rfl, by decide, tyX12_ok, nmX12, rfl, by decide +kernel, rfl⟩
theorem Fq_RX12_50 : fh_Ff RX12 50 12 27 (.array .long) := ⟨RX12, TX12, 49, tyX12, rfl, by decide, fh_at 1317 (by decide +kernel) rfl, ix_12, rfl, by decide, tyX12_ok, nmX12, rfl, by decide +kernel, rfl⟩
theorem Fq_RX12_53 : fh_Ff RX12 53 12 31 (.array .int) := ⟨RX12, TX12, 49, tyX12, rfl, by decide, fh_at 1321 (by decide +kernel) rfl, ix_12, rfl, by decide, tyX12_ok, nmX12, rfl, by decide +kernel, rfl⟩
theorem Fq_RX12_56 : fh_Ff RX12 56 12 33 (.array .int) := ⟨RX12, TX12, 49, tyX12, rfl, by decide, fh_at 1323 (by decide +kernel) rfl, ix_12, rfl, by decide, tyX12_ok, nmX12, rfl, by decide +kernel, rfl⟩
theorem Fq_RX12_59 : fh_Ff RX12 59 12 34 (.array .int) := ⟨RX12, TX12, 49, tyX12, rfl, by decide, fh_at 1324 (by decide +kernel) rfl, ix_12, rfl, by decide, tyX12_ok, nmX12, rfl, by decide +kernel, rfl⟩
theorem YI_X12_init : Cond.instanceMethod yX12_init ∈ fh_U := fh_at 1141 (by decide +kernel) rfl
theorem Ob_i : Cond.instanceMethod objectInit ∈ fh_U := fh_at 31 (by decide +kernel) rfl
theorem Ob_c : Cond.code objectInit ⟨#[0xb1]⟩ 1 none ∈ fh_U := fh_at 32 (by decide +kernel) rfl
