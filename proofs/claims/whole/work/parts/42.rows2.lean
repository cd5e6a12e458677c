/-! rows for methods that use texts or throw -/
section FZ
variable {p : Program} {l : Launch} {e : Env} {R : Room} {s : State} {m : MethodId} {args : Array Value} {below : List Frame} {meth : Method} {c : Code} {H : Heap} {locs : List Loc} {cells slots : Nat} {Q : State → Prop}
variable {cc : ByteArray} {pc nL : Nat} {ls : Array Slot} {rest st0 st1 : List Value} {own : String} {S : fh_S} {g : fh_G} {h h' : fh_H} {v : Option Value} {z : (Nat → Nat) × (Nat → Nat)}
theorem fz_cV {y : MethodName} {bc : ByteArray} {mL n d idx b : Nat} {ret : Option FieldType} {As : List Value} (C : fh_C p m c cc nL s args own S g) (EX : fx_E z (fh_A S g s.heap.size) s s.heap) (hR : fh_R S g s.heap h H locs) (hM : fx_M l y bc mL ret (fh_rm d) S g z (.ref b :: As) h v h') (Y : fh_Y y bc mL ret n) (YV : fh_YV y) (lk : Cond.methodLink own idx y ∈ fh_U)
    (hrecv : ∃ cellB : Cell, H[b]? = some cellB ∧ cellB.vm.isStatics = false ∧ s.vm.findClass y.cls = some cellB.cls) (hn : As.length = n) (hsz : ls.size = nL) (hrm : d + 21 ≤ R.frames ∧ mL + (60 * d + 619) ≤ R.locals) (hst : st0 = As.reverse ++ .ref b :: rest) (hW : (rest.map fun v => v.category).sum ≤ 8) (hcap : cells ≤ R.cells ∧ slots ≤ R.slots) (hs1 : v.toList ++ rest = st1) (hdg : decode cc pc = .ok (.invokevirtual idx, 3))
    (kk : ∀ (H1 : Heap) (locs1 : List Loc), fh_R S g s.heap h' H1 locs1 → W p l e R s m args below meth c H1 locs1 cells slots Q (F0 m (pc + 3) ls st1)) : W p l e R s m args below meth c H locs cells slots Q (F0 m pc ls st0) := by
  subst hst hs1
  obtain ⟨Y1, Y2, Y3, Y4, Y5⟩ := Y
  have hcw : CallW R s args own y.cls idx y bc mL ret (.code y bc mL ret :: fh_U) (fh_rm d) 0 0 n := cwV n C.1.2.2.2.2 (fh_gd (fun w hw => by
    simp only [wsV, List.mem_append, List.mem_cons, List.not_mem_nil, or_false] at hw
    rcases hw with (rfl | rfl | rfl | rfl) | (rfl | hw)
    · exact lk
    · exact YV.1
    · exact YV.2
    · exact Y2
    · exact Y1
    · exact hw)) rfl rfl rfl ⟨rfl, Y3, Y4, Y5⟩ ⟨by show d + 20 + 1 ≤ _; omega, by show 8 + (mL + 11) + (60 * d + 600) ≤ _; omega⟩
  exact fr_run hR (va_runV C.1 (hM H.size) hcw ⟨fx_blind S g z _ _ h, hrecv, fun U hU hW => ⟨rfl, by rw [hU], by rw [hU]; exact hR.1, C.2.1.warm hW, by have q := EX.step hR.2 hU hW; rw [hU] at q ⊢; exact q⟩⟩ rfl hn hsz rfl (lv_room hW) hdg ⟨hcap.1, hcap.2⟩) kk
theorem fz_cS {y : MethodName} {bc : ByteArray} {mL n d idx : Nat} {ret : Option FieldType} {As : List Value} (C : fh_C p m c cc nL s args own S g) (EX : fx_E z (fh_A S g s.heap.size) s s.heap) (hR : fh_R S g s.heap h H locs) (hM : fx_M l y bc mL ret (fh_rm d) S g z As h v h') (Y : fh_Y y bc mL ret n) (YS : Cond.static y ∈ fh_U) (lk : Cond.methodLink own idx y ∈ fh_U)
    (hn : As.length = n) (hsz : ls.size = nL) (hrm : d + 21 ≤ R.frames ∧ mL + (60 * d + 619) ≤ R.locals) (hst : st0 = As.reverse ++ rest) (hW : (rest.map fun v => v.category).sum ≤ 8) (hcap : cells ≤ R.cells ∧ slots ≤ R.slots) (hs1 : v.toList ++ rest = st1) (hdg : decode cc pc = .ok (.invokestatic idx, 3))
    (kk : ∀ (H1 : Heap) (locs1 : List Loc), fh_R S g s.heap h' H1 locs1 → W p l e R s m args below meth c H1 locs1 cells slots Q (F0 m (pc + 3) ls st1)) : W p l e R s m args below meth c H locs cells slots Q (F0 m pc ls st0) := by
  subst hst hs1
  obtain ⟨Y1, Y2, Y3, Y4, Y5⟩ := Y
  have hcw : CallB R s args own idx y bc mL ret (.code y bc mL ret :: fh_U) (fh_rm d) 0 0 n := callB_of n C.1.2.2.2.2 (fh_gdc Y1) rfl rfl rfl (C.1.2.2.2.2 _ Y2) (C.1.2.2.2.2 _ lk) ⟨Y3, Y4, Y5⟩ ⟨by show d + 20 + 1 ≤ _; omega, by show 8 + (mL + 11) + (60 * d + 600) ≤ _; omega⟩
  exact fr_run hR (va_runS C.1 (hM H.size) ⟨hcw, C.1.2.2.2.2 _ YS⟩ ⟨fx_blind S g z _ _ h, fun U hU hW => ⟨rfl, by rw [hU], by rw [hU]; exact hR.1, C.2.1.warm hW, by have q := EX.step hR.2 hU hW; rw [hU] at q ⊢; exact q⟩⟩ rfl hn hsz rfl (lv_room hW) hdg ⟨hcap.1, hcap.2⟩) kk
theorem fz_rv {i ci : Nat} (C : fh_C p m c cc nL s args own S g) (hR : fh_R S g s.heap h H locs) (hi : fh_kq S i ci = true) {Cn : String} (hc : ∃ T N, vwCl[ci]? = some (Cn, T, N) ∧ ci < 13) : ∃ cellB : Cell, H[g.2.2 i]? = some cellB ∧ cellB.vm.isStatics = false ∧ s.vm.findClass Cn = some cellB.cls := by
  obtain ⟨T, N, hc, h6⟩ := hc
  exact va_recv C.2.1.1 hR.1 hc (by rw [fh_w_at S g h (fh_kq_lt hi), fh_e_ob g h (fh_kq_k hi) h6])
theorem fz_run {o : Nat ⊕ Option Value} {n : Nat} {a : Array Value} (hR : fh_R S g s.heap h H locs) (hr : vx_Run p l e R s m args below meth c H locs cells slots n (6 * n) (F0 m pc ls st0) rest (fx_Q S g H.size o h' a) (fx_XC S g H.size o h') (fh_A S g H.size))
    (kx : ∀ (k q : Nat) (ce : Cell) (H1 : Heap) (locs1 : List Loc), o = .inl k → H1[q]? = some ce → ce.vm = .none → s.vm.findClass (fx_n k) = some ce.cls → fh_R S g s.heap h' H1 locs1 → vx_W p l e R s m args below meth c H1 locs1 (cells + n) (slots + 6 * n) Q (F0 m pc ls rest) q)
    (kk : ∀ (v : Option Value) (H1 : Heap) (locs1 : List Loc), o = .inr v → fh_R S g s.heap h' H1 locs1 → W p l e R s m args below meth c H1 locs1 (cells + n) (slots + 6 * n) Q (F0 m (pc + 3) ls (v.toList ++ rest))) : W p l e R s m args below meth c H locs cells slots Q (F0 m pc ls st0) := by
  intro T hT X
  have hS := hR.2
  rcases hr T hT X with ⟨v, st₀, t, T', L, h0, X', hL, e1, e2, ⟨v1, ho, hv, hp, hz, hk⟩, st⟩ | ⟨q, st₀, t, T', L, E, ce, h0, X', hL, e1, e2, ⟨k, ho, hE, hp, hz, hk⟩, hce, hcv, hcl, st⟩
  · cases hv
    rw [h0] at hz hk
    obtain ⟨t2, a1, b1⟩ := kk v T'.heap (locs ++ L) ho ⟨by rw [e1]; exact hp, Nat.le_trans hS.1 (by rw [e1]; exact hz), fun q h1 h2 => by
        rw [e1, hk q (Nat.lt_of_lt_of_le h1 hS.1) (fun z => h2 (fh_A_le hS.1 z))]; exact hS.2.1 q h1 h2, fun q hq => by
        rcases List.mem_append.mp hq with z | z
        · exact hS.2.2 q z
        · exact fh_A_le hS.1 (hL q z)⟩ T' rfl X'
    exact ⟨t2, st t2 a1, b1⟩
  · subst hE
    rw [h0] at hz hk
    obtain ⟨t2, a1, b1⟩ := kx k q ce T'.heap (locs ++ L) ho (by rw [e1]; exact hce) hcv hcl ⟨by rw [e1]; exact hp, Nat.le_trans hS.1 (by rw [e1]; exact hz), fun q h1 h2 => by
        rw [e1, hk q (Nat.lt_of_lt_of_le h1 hS.1) (fun z => h2 (fh_A_le hS.1 z))]; exact hS.2.1 q h1 h2, fun q hq => by
        rcases List.mem_append.mp hq with z | z
        · exact hS.2.2 q z
        · exact fh_A_le hS.1 (hL q z)⟩ T' rfl X'
    exact ⟨t2, st.trans a1, b1⟩
theorem fz_xV {o : Nat ⊕ Option Value} {y : MethodName} {bc : ByteArray} {mL n np d idx b : Nat} {ret : Option FieldType} {As : List Value} (C : fh_C p m c cc nL s args own S g) (EX : fx_E z (fh_A S g s.heap.size) s s.heap) (hR : fh_R S g s.heap h H locs) (hM : fx_Mx l y bc mL ret d n S g z (.ref b :: As) h o h') (Y : fh_Y y bc mL ret np) (YV : fh_YV y) (lk : Cond.methodLink own idx y ∈ fh_U)
    (hrecv : ∃ cellB : Cell, H[b]? = some cellB ∧ cellB.vm.isStatics = false ∧ s.vm.findClass y.cls = some cellB.cls) (hn : As.length = np) (hsz : ls.size = nL) (hrm : d + 21 ≤ R.frames ∧ mL + (60 * d + 619) ≤ R.locals) (hst : st0 = As.reverse ++ .ref b :: rest) (hW : (rest.map fun v => v.category).sum ≤ 8) (hcap : cells + n ≤ R.cells ∧ slots + 6 * n ≤ R.slots) (hdg : decode cc pc = .ok (.invokevirtual idx, 3))
    (kx : ∀ (k q : Nat) (ce : Cell) (H1 : Heap) (locs1 : List Loc), o = .inl k → H1[q]? = some ce → ce.vm = .none → s.vm.findClass (fx_n k) = some ce.cls → fh_R S g s.heap h' H1 locs1 → vx_W p l e R s m args below meth c H1 locs1 (cells + n) (slots + 6 * n) Q (F0 m pc ls rest) q)
    (kk : ∀ (v : Option Value) (H1 : Heap) (locs1 : List Loc), o = .inr v → fh_R S g s.heap h' H1 locs1 → W p l e R s m args below meth c H1 locs1 (cells + n) (slots + 6 * n) Q (F0 m (pc + 3) ls (v.toList ++ rest))) : W p l e R s m args below meth c H locs cells slots Q (F0 m pc ls st0) := by
  subst hst
  obtain ⟨Y1, Y2, Y3, Y4, Y5⟩ := Y
  have hcw : CallW R s args own y.cls idx y bc mL ret (.code y bc mL ret :: fh_U) (fx_rm d n) n (6 * n) np := cwV np C.1.2.2.2.2 (fh_gd (fun w hw => by
    simp only [wsV, List.mem_append, List.mem_cons, List.not_mem_nil, or_false] at hw
    rcases hw with (rfl | rfl | rfl | rfl) | (rfl | hw)
    · exact lk
    · exact YV.1
    · exact YV.2
    · exact Y2
    · exact Y1
    · exact hw)) rfl rfl rfl ⟨rfl, Y3, Y4, Y5⟩ ⟨by show d + 20 + 1 ≤ _; omega, by show 8 + (mL + 11) + (60 * d + 600) ≤ _; omega⟩
  exact fz_run hR (vx_runV C.1 (hM H.size) hcw ⟨fx_blind S g z _ _ h, hrecv, fun U hU hW => ⟨rfl, by rw [hU], by rw [hU]; exact hR.1, C.2.1.warm hW, by have q := EX.step hR.2 hU hW; rw [hU] at q ⊢; exact q⟩⟩ rfl hn hsz rfl (lv_room hW) hdg hcap) kx kk
theorem fz_xS {o : Nat ⊕ Option Value} {y : MethodName} {bc : ByteArray} {mL n np d idx : Nat} {ret : Option FieldType} {As : List Value} (C : fh_C p m c cc nL s args own S g) (EX : fx_E z (fh_A S g s.heap.size) s s.heap) (hR : fh_R S g s.heap h H locs) (hM : fx_Mx l y bc mL ret d n S g z As h o h') (Y : fh_Y y bc mL ret np) (YS : Cond.static y ∈ fh_U) (lk : Cond.methodLink own idx y ∈ fh_U)
    (hn : As.length = np) (hsz : ls.size = nL) (hrm : d + 21 ≤ R.frames ∧ mL + (60 * d + 619) ≤ R.locals) (hst : st0 = As.reverse ++ rest) (hW : (rest.map fun v => v.category).sum ≤ 8) (hcap : cells + n ≤ R.cells ∧ slots + 6 * n ≤ R.slots) (hdg : decode cc pc = .ok (.invokestatic idx, 3))
    (kx : ∀ (k q : Nat) (ce : Cell) (H1 : Heap) (locs1 : List Loc), o = .inl k → H1[q]? = some ce → ce.vm = .none → s.vm.findClass (fx_n k) = some ce.cls → fh_R S g s.heap h' H1 locs1 → vx_W p l e R s m args below meth c H1 locs1 (cells + n) (slots + 6 * n) Q (F0 m pc ls rest) q)
    (kk : ∀ (v : Option Value) (H1 : Heap) (locs1 : List Loc), o = .inr v → fh_R S g s.heap h' H1 locs1 → W p l e R s m args below meth c H1 locs1 (cells + n) (slots + 6 * n) Q (F0 m (pc + 3) ls (v.toList ++ rest))) : W p l e R s m args below meth c H locs cells slots Q (F0 m pc ls st0) := by
  subst hst
  obtain ⟨Y1, Y2, Y3, Y4, Y5⟩ := Y
  have hcw : CallB R s args own idx y bc mL ret (.code y bc mL ret :: fh_U) (fx_rm d n) n (6 * n) np := callB_of np C.1.2.2.2.2 (fh_gdc Y1) rfl rfl rfl (C.1.2.2.2.2 _ Y2) (C.1.2.2.2.2 _ lk) ⟨Y3, Y4, Y5⟩ ⟨by show d + 20 + 1 ≤ _; omega, by show 8 + (mL + 11) + (60 * d + 600) ≤ _; omega⟩
  exact fz_run hR (vx_runS C.1 (hM H.size) ⟨hcw, C.1.2.2.2.2 _ YS⟩ ⟨fx_blind S g z _ _ h, fun U hU hW => ⟨rfl, by rw [hU], by rw [hU]; exact hR.1, C.2.1.warm hW, by have q := EX.step hR.2 hU hW; rw [hU] at q ⊢; exact q⟩⟩ rfl hn hsz rfl (lv_room hW) hdg hcap) kx kk
/-- an exception that isn't caught here goes on to the caller -/
theorem fz_out {o : Nat ⊕ Option Value} {n k q : Nat} {ce : Cell} (hno : ∀ x ∈ c.exceptionTable.toList, False) (hlocks : meth.locks = false) (ho : o = .inl k) (h1 : H[q]? = some ce) (h2 : ce.vm = .none) (h3 : s.vm.findClass (fx_n k) = some ce.cls) (hR : fh_R S g s.heap h H locs) (eh : h = h') (hc : cells ≤ n) (hs : slots ≤ 6 * n) :
    vx_W p l e R s m args below meth c H locs cells slots (vx_MQ below (fx_Q S g s.heap.size o h') (fx_XC S g s.heap.size o h') args s n (6 * n) (fh_A S g s.heap.size)) (F0 m pc ls rest) q := by
  subst eh
  exact vx_out (fun x hx => (hno x hx).elim) hlocks h1 h2 h3 (fun t ht hv => ⟨k, ho, rfl, by rw [ht]; exact hR.1, hR.2.F ht⟩) hR.2.2.2 hc hs
theorem fz_iret {n : Nat} {r : Nat ⊕ Int32} {x : Int32} (C : fh_C p m c cc nL s args own S g) (hr : meth.sig.returnType = some .int) (hlocks : meth.locks = false) (hR : fh_R S g s.heap h H locs) (ev : .inr x = r) (eh : h = h') (hc : cells ≤ n) (hs : slots ≤ 6 * n) (hdg : decode cc pc = .ok (.ireturn, 1)) :
    W p l e R s m args below meth c H locs cells slots (vx_MQ below (fx_Q S g s.heap.size (fx_oi r) h') (fx_XC S g s.heap.size (fx_oi r) h') args s n (6 * n) (fh_A S g s.heap.size)) (F0 m pc ls [.int x]) := by
  subst ev eh
  exact W.widen hc hs (vx_ret (W.iret C.1.1 C.1.2.1 hr (fun t ht hW => ⟨_, rfl, rfl, by rw [ht]; exact hR.1, hR.2.F ht⟩) hR.2.2.2 hdg hlocks))
theorem fz_lret {n : Nat} {r : Nat ⊕ Int64} {x : Int64} (C : fh_C p m c cc nL s args own S g) (hr : meth.sig.returnType = some .long) (hlocks : meth.locks = false) (hR : fh_R S g s.heap h H locs) (ev : .inr x = r) (eh : h = h') (hc : cells ≤ n) (hs : slots ≤ 6 * n) (hdg : decode cc pc = .ok (.lreturn, 1)) :
    W p l e R s m args below meth c H locs cells slots (vx_MQ below (fx_Q S g s.heap.size (fx_ol r) h') (fx_XC S g s.heap.size (fx_ol r) h') args s n (6 * n) (fh_A S g s.heap.size)) (F0 m pc ls [.long x]) := by
  subst ev eh
  exact W.widen hc hs (vx_ret (W.lret C.1.1 C.1.2.1 hr (fun t ht hW => ⟨_, rfl, rfl, by rw [ht]; exact hR.1, hR.2.F ht⟩) hR.2.2.2 hdg hlocks))
theorem fz_vret {n : Nat} {r : Nat ⊕ Unit} (C : fh_C p m c cc nL s args own S g) (hr : meth.sig.returnType = none) (hlocks : meth.locks = false) (hR : fh_R S g s.heap h H locs) (ev : .inr () = r) (eh : h = h') (hc : cells ≤ n) (hs : slots ≤ 6 * n) (hdg : decode cc pc = .ok (.return_, 1)) :
    W p l e R s m args below meth c H locs cells slots (vx_MQ below (fx_Q S g s.heap.size (fx_ov r) h') (fx_XC S g s.heap.size (fx_ov r) h') args s n (6 * n) (fh_A S g s.heap.size)) (F0 m pc ls []) := by
  subst ev eh
  exact W.widen hc hs (vx_ret (W.vret C.1.1 C.1.2.1 hr (fun t ht hW => ⟨_, rfl, rfl, by rw [ht]; exact hR.1, hR.2.F ht⟩) hR.2.2.2 hdg hlocks))
theorem fz_aret {n j : Nat} {cn : String} {r : Nat ⊕ Option Nat} (C : fh_C p m c cc nL s args own S g) (hr : meth.sig.returnType = some (.object cn)) (hlocks : meth.locks = false) (hR : fh_R S g s.heap h H locs) (ev : .inr (some j) = r) (eh : h = h') (hc : cells ≤ n) (hs : slots ≤ 6 * n) (hdg : decode cc pc = .ok (.areturn, 1)) :
    W p l e R s m args below meth c H locs cells slots (vx_MQ below (fx_Q S g s.heap.size (fx_or g r) h') (fx_XC S g s.heap.size (fx_or g r) h') args s n (6 * n) (fh_A S g s.heap.size)) (F0 m pc ls [.ref (g.2.2 j)]) := by
  subst ev eh
  exact W.widen hc hs (vx_ret (W.aret C.1.1 C.1.2.1 hr (Or.inl ⟨_, rfl⟩) (Or.inr ⟨_, rfl⟩) (fun t ht hW => ⟨_, rfl, rfl, by rw [ht]; exact hR.1, hR.2.F ht⟩) hR.2.2.2 hdg hlocks))
theorem fx_hat {k : Nat} (hk : k = 0 ∨ k = 1) (hts : ∀ w ∈ fh_U, w.before args s = true) (hB : ∀ w ∈ fs_B, va_Nw w s) : ∀ w ∈ fx_at0 k, w.before args s = true := by
  have g0 : (fx_at0 0 ++ fx_at0 1).all (fun w => !goodWord w || decide (w ∈ lw_tbl)) = true := by decide +kernel
  intro w hw
  have hm : w ∈ fx_at0 0 ++ fx_at0 1 := by
    rcases hk with rfl | rfl
    · exact List.mem_append_left _ hw
    · exact List.mem_append_right _ hw
  by_cases hg : goodWord w = true
  · have h1 := List.all_eq_true.mp g0 w hm
    rw [hg] at h1
    exact hts w (fh_inU (of_decide_eq_true h1) hg)
  · have hb : w ∈ fs_B := List.mem_filter.mpr ⟨hm, by simpa using hg⟩
    obtain ⟨a, b, q⟩ := fs_Bc w hb
    rcases q with rfl | ⟨x, rfl⟩ <;> exact va_Nw.use rfl (hB _ hb)
theorem fx_hot : ∀ k, k = 0 ∨ k = 1 → ∀ w ∈ Cond.classLink RX11 (fx_ik k) (fx_n k) :: Cond.initialized (fx_n k) :: fx_at0 k, vx_ot w = true := by
  intro k hk
  have g0 : ∀ w ∈ Cond.classLink RX11 (fx_ik 0) (fx_n 0) :: Cond.initialized (fx_n 0) :: fx_at0 0, vx_ot w = true := List.all_eq_true.mp (by decide +kernel)
  have g1 : ∀ w ∈ Cond.classLink RX11 (fx_ik 1) (fx_n 1) :: Cond.initialized (fx_n 1) :: fx_at0 1, vx_ot w = true := List.all_eq_true.mp (by decide +kernel)
  rcases hk with rfl | rfl
  · exact g0
  · exact g1
theorem fx_kl : ∀ k, k = 0 ∨ k = 1 → Cond.classLink RX11 (fx_ik k) (fx_n k) ∈ fh_U ∧ Cond.initialized (fx_n k) ∈ fh_U ∧ Bundle.fit (fx_n k) = true ∧ decode (fx_rx k) 0 = .ok (.aload_n 0, 1) ∧ decode (fx_rx k) 1 = .ok (.aload_n 1, 1) ∧ decode (fx_rx k) 2 = .ok (.invokespecial (fx_ix k), 3) ∧ decode (fx_rx k) 5 = .ok (.return_, 1) := by
  intro k hk
  rcases hk with rfl | rfl
  · exact ⟨fh_at 470 (by decide +kernel) rfl, fh_at 18 (by decide +kernel) rfl, by decide +kernel, by decide +kernel, by decide +kernel, by decide +kernel, by decide +kernel⟩
  · exact ⟨fh_at 697 (by decide +kernel) rfl, fh_at 23 (by decide +kernel) rfl, by decide +kernel, by decide +kernel, by decide +kernel, by decide +kernel, by decide +kernel⟩
theorem fz_throw {o : Nat ⊕ Option Value} {n is : Nat} {text : String} (k : Nat) (hk : k = 0 ∨ k = 1) (C : fh_C p m c cc nL s args RX11 S g) (EX : fx_E z (fh_A S g s.heap.size) s s.heap) (hl : l.stackTraces = false) (hno : ∀ x ∈ c.exceptionTable.toList, False) (hlocks : meth.locks = false) (hR : fh_R S g s.heap h H locs) (ho : .inl k = o) (eh : h = h') (hm : (is, text) ∈ fs_m) (hsz : ls.size = nL) (hrm : 6 ≤ R.frames ∧ 100 ≤ R.locals ∧ (rest.map fun v => v.category).sum ≤ 8) (hcap : cells + 1 ≤ R.cells ∧ slots + 6 ≤ R.slots) (hc : cells + 1 ≤ n) (hs : slots + 6 ≤ 6 * n)
    (d0 : decode cc pc = .ok (.new (fx_ik k), 3)) (d3 : decode cc (pc + 3) = .ok (.dup, 1)) (d4 : decode cc (pc + 4) = .ok (.ldc is, 2)) (d6 : decode cc (pc + 6) = .ok (.invokespecial (fx_ic k), 3)) (d9 : decode cc (pc + 9) = .ok (.athrow, 1)) :
    W p l e R s m args below meth c H locs cells slots (vx_MQ below (fx_Q S g s.heap.size o h') (fx_XC S g s.heap.size o h') args s n (6 * n) (fh_A S g s.heap.size)) (F0 m pc ls rest) := by
  obtain ⟨c1, c2, c3, c4, c5, c6, c7⟩ := fx_kl k hk
  obtain ⟨⟨hx, hb, hml, hown, hts⟩, hK, hj⟩ := id C
  obtain ⟨sa, hsa⟩ := EX.2.2.2.2.2.2.1 _ hm
  have hS := hR.2
  refine fx_make (names := fx_nm) hx hb hl rfl c4 c5 c6 c7 hown c3 (by decide +kernel) (hts _ c1) (hts _ c2) hsa (fx_hat hk hts EX.2.2.2.2.2.2.2) (fx_hot k hk) EX.2.2.2.1 EX.2.2.2.2.1 hS (by rw [hml]; exact hsz) d0 d3 d4 d6 (by show 2 + 3 < _; omega) (by show _ + (13 * (2 + 1) + 43) ≤ _; omega) hcap.1 hcap.2 (fun q ce H1 h1 h2 h3 h4 h5 => ?_)
  have hR1 : fh_R S g s.heap h H1 locs := ⟨hR.1.kept (fun k q hk => h5 _ ((hR.1 k q hk).lt)), Nat.le_trans hS.1 h4, fun q a b => (h5 q (Nat.lt_of_lt_of_le a hS.1)).trans (hS.2.1 q a b), hS.2.2⟩
  exact vx_athrow hx hb d9 (fz_out hno hlocks ho.symm h1 h2 h3 hR1 eh hc hs)
theorem fz_throwW {o : Nat ⊕ Option Value} {n is : Nat} {text : String} (k : Nat) (hk : k = 0 ∨ k = 1) (C : fh_C p m c cc nL s args RX11 S g) (EX : fx_E z (fh_A S g s.heap.size) s s.heap) (hl : l.stackTraces = false) (hno : ∀ x ∈ c.exceptionTable.toList, False) (hlocks : meth.locks = false) (hR : fh_R S g s.heap h H locs) (ho : .inl k = o) (eh : h = h') (hm : (is, text) ∈ fs_m) (hsz : ls.size = nL) (hrm : 6 ≤ R.frames ∧ 100 ≤ R.locals ∧ (rest.map fun v => v.category).sum ≤ 8) (hcap : cells + 1 ≤ R.cells ∧ slots + 6 ≤ R.slots) (hc : cells + 1 ≤ n) (hs : slots + 6 ≤ 6 * n)
    (d0 : decode cc pc = .ok (.new (fx_ik k), 3)) (d3 : decode cc (pc + 3) = .ok (.dup, 1)) (d4 : decode cc (pc + 4) = .ok (.ldc_w is, 3)) (d6 : decode cc (pc + 7) = .ok (.invokespecial (fx_ic k), 3)) (d9 : decode cc (pc + 10) = .ok (.athrow, 1)) :
    W p l e R s m args below meth c H locs cells slots (vx_MQ below (fx_Q S g s.heap.size o h') (fx_XC S g s.heap.size o h') args s n (6 * n) (fh_A S g s.heap.size)) (F0 m pc ls rest) := by
  obtain ⟨c1, c2, c3, c4, c5, c6, c7⟩ := fx_kl k hk
  obtain ⟨⟨hx, hb, hml, hown, hts⟩, hK, hj⟩ := id C
  obtain ⟨sa, hsa⟩ := EX.2.2.2.2.2.2.1 _ hm
  have hS := hR.2
  refine fx_makeW (names := fx_nm) hx hb hl rfl c4 c5 c6 c7 hown c3 (by decide +kernel) (hts _ c1) (hts _ c2) hsa (fx_hat hk hts EX.2.2.2.2.2.2.2) (fx_hot k hk) EX.2.2.2.1 EX.2.2.2.2.1 hS (by rw [hml]; exact hsz) d0 d3 d4 d6 (by show 2 + 3 < _; omega) (by show _ + (13 * (2 + 1) + 43) ≤ _; omega) hcap.1 hcap.2 (fun q ce H1 h1 h2 h3 h4 h5 => ?_)
  have hR1 : fh_R S g s.heap h H1 locs := ⟨hR.1.kept (fun k q hk => h5 _ ((hR.1 k q hk).lt)), Nat.le_trans hS.1 h4, fun q a b => (h5 q (Nat.lt_of_lt_of_le a hS.1)).trans (hS.2.1 q a b), hS.2.2⟩
  exact vx_athrow hx hb d9 (fz_out hno hlocks ho.symm h1 h2 h3 hR1 eh hc hs)
theorem fr_ldcwS (hexec : p.tables.exec = Jvm.exec) (hb : c.code = cc) {tx : String} {index q : Nat} (hown : s.vm.findClass own = some m.cls) (hZ : vk_R own index tx q s) (hdg : decode cc pc = .ok (.ldc_w index, 3))
    (k : W p l e R s m args below meth c H locs cells slots Q (F0 m (pc + 3) ls (.ref q :: rest))) : W p l e R s m args below meth c H locs cells slots Q (F0 m pc ls rest) := by
  intro T hT X
  obtain ⟨t, a1, b1⟩ := k T hT X
  exact ⟨t, X.ldcStringW hexec hown (text := tx) (a := q) hZ.1 hZ.2 (g := F0 m pc ls rest) rfl (by rw [hb]; exact hdg) t a1, b1⟩
end FZ
def fh_bx {α β : Type} (o : Option ((Nat ⊕ α) × fh_H)) (f : α → fh_H → Option ((Nat ⊕ β) × fh_H)) : Option ((Nat ⊕ β) × fh_H) := match o with
  | none => none
  | some (.inl k, h) => some (.inl k, h)
  | some (.inr a, h) => f a h
theorem fr_bx {α β : Type} {o : Option ((Nat ⊕ α) × fh_H)} {f : α → fh_H → Option ((Nat ⊕ β) × fh_H)} {x : (Nat ⊕ β) × fh_H} (h : fh_bx o f = some x) : (∃ k h1, o = some (.inl k, h1) ∧ some (Sum.inl k, h1) = some x) ∨ ∃ a h1, o = some (.inr a, h1) ∧ f a h1 = some x := by
  match o, h with
  | some (.inl k, h1), h => exact Or.inl ⟨k, h1, rfl, h⟩
  | some (.inr a, h1), h => exact Or.inr ⟨a, h1, rfl, h⟩
