/-! CONSTRUCTORS, walked -/
theorem fn_kq {S S' : fh_S} {i c k len : Nat} (e : S' = fh_push S k len) (h : fh_kq S i c = true) : fh_kq S' i c = true := by
  rw [e]; exact fh_kq_push h
def fd_Q (S : fh_S) (g : fh_G) (sz : Nat) (S' : fh_S) (h' : fh_H) : Array Value → State → Outcome → State → Prop := fun _ st oc t => oc = .returned none ∧ ∃ g' : fh_G, fn_rel S g S' g' sz ∧ fh_inj S' g' ∧ va_P g'.1 vwCl (fh_w S' g' h') t.heap ∧ va_F (fh_A S g sz) st t
def fd_M (l : Launch) (y : MethodName) (cc : ByteArray) (nL d k n : Nat) (S : fh_S) (g : fh_G) (av : List Value) (h : fh_H) (S' : fh_S) (h' : fh_H) : Prop :=
  ∀ sz, Met l y (.code y cc nL none :: fh_U) (fc_rm d k n) (fc_P S g av sz h) (fd_Q S g sz S' h') k n (fh_A S g sz)

theorem fd_head {l : Launch} {y : MethodName} {cc : ByteArray} {nL d k n : Nat} {S S' : fh_S} {g : fh_G} {av : List Value} {h h' : fh_H} {own : String} (hy : plainName y.cls = true) (hyc : y.cls = own) (hyn : y.name = "<init>") (hj : fh_inj S g) (hnl : (lg_sl av).length ≤ nL)
    (body : ∀ (p : Program) (e : Env) (s : State) (m : MethodId) (below : List Frame) (meth : Method) (c : Code) (ls : Array Slot), fh_C p m c cc nL s av.toArray own S g → fc_N s → meth.name = "<init>" → meth.sig.returnType = none → meth.locks = false → fh_R S g s.heap h s.heap [] → lv_has ls nL (lv_args 0 av) →
      W p l e (fc_rm d k n) s m av.toArray below meth c s.heap [] 0 0 (MQ below (fd_Q S g s.heap.size S' h') av.toArray s k n (fh_A S g s.heap.size)) (F0 m 0 ls [])) : fd_M l y cc nL d k n S g av h S' h' := by
  intro sz
  refine Met.ofW (cc := cc) (maxL := nL) (ret := none) hy rfl ?_
  intro p e s m args below meth c s₁ B hml hv
  obtain ⟨rfl, hsz, hP, hK, hN⟩ := hv
  subst hsz
  have hts := atoms_spec (ws := .code y cc nL none :: fh_U) B.pre
  have hown : s.vm.findClass own = some m.cls := hyc ▸ findClass_of_methodNamed B.named
  rw [lg_entry_eq]
  exact body p e s m below meth c _ ⟨⟨B.exec, B.bytes, hml, hown, fun w hw => hts w (List.mem_cons_of_mem _ hw)⟩, hK, hj⟩ hN ((name_of_methodNamed B.named B.method).1.trans hyn) B.returns B.notSynchronized ⟨hP, va_S.rf⟩ (lv_entry av hnl)
section FD
variable {p : Program} {l : Launch} {e : Env} {R : Room} {s : State} {m : MethodId} {args : Array Value} {below : List Frame} {meth : Method} {c : Code} {H : Heap} {locs : List Loc} {cells slots : Nat} {Q : State → Prop}
variable {cc : ByteArray} {pc nL : Nat} {ls : Array Slot} {rest st0 : List Value} {own : String} {S S' : fh_S} {g : fh_G} {h h' : fh_H}
theorem fd_ret {S0 : fh_S} {g0 : fh_G} {k n : Nat} {ev : Env} (C : fh_C p m c cc nL s args own S g) (hr : meth.sig.returnType = none) (hlocks : meth.locks = false) (hR : fh_R S g s.heap h H locs) (hE : fn_rel S0 g0 S g s.heap.size) (e : some (S, h) = some (S', h')) (hc : cells ≤ k) (hs : slots ≤ n) (hdg : decode cc pc = .ok (.return_, 1)) :
    W p l ev R s m args below meth c H locs cells slots (MQ below (fd_Q S0 g0 s.heap.size S' h') args s k n (fh_A S0 g0 s.heap.size)) (F0 m pc ls []) := by
  cases e
  have hA : ∀ q, fh_A S g s.heap.size q → fh_A S0 g0 s.heap.size q := fun q hq => by
    rcases hq with ⟨i, hi, e⟩ | z
    · rcases Nat.lt_or_ge i S0.1 with a | a
      · exact Or.inl ⟨i, a, by rw [e, hE.2.2.2.1 i a]⟩
      · exact Or.inr (by rw [e]; exact hE.2.2.2.2 i a hi)
    · exact Or.inr z
  refine W.widen hc hs (W.vret C.1.1 C.1.2.1 hr (fun t ht hW => ⟨rfl, g, hE, C.2.2, by rw [ht]; exact hR.1, by rw [ht]; exact hR.2.1, fun q h1 h2 => by rw [ht]; exact hR.2.2.1 q h1 (fun z => h2 (hA q z))⟩) (fun q hq => hA _ (hR.2.2.2 q hq)) hdg hlocks)
end FD
/-! TermRows$Half.<init>()V -/
def z_X0_init (S : fh_S) (h : fh_H) (a : Nat) : Option (fh_S × fh_H) :=
    some (S, h)
set_option maxHeartbeats 4000000 in
set_option maxRecDepth 100000 in
theorem k_X0_init {l : Launch} {S S' : fh_S} {g : fh_G} {h h' : fh_H} (hj : fh_inj S g) (hok : fh_ok S h) {a : Nat} (ha : fh_kq S a 0 = true) (hsp : z_X0_init S h a = some (S', h')) : fc_M l yX0_init cX0_init 1 1 0 0 S g [.ref (g.2.2 a)] h S' h' := by
  unfold z_X0_init at hsp
  refine fc_head (own := RX0) (by decide) rfl rfl hj (Nat.le_of_ble_eq_true rfl) ?_
  intro p e s m below meth c ls C hN hin hr hlocks hR hl
  have hl : lv_has ls 1 [(0, .ref (g.2.2 a))] := hl
  generalize List.toArray ([.ref (g.2.2 a)] : List Value) = args at C ⊢
  have hx := C.1.1
  have hb_ := C.1.2.1
  have hE : fn_rel S g S g s.heap.size := fn_rel.rf
  refine lv_aload_n hx hb_ dX0_init_0 rfl (lv_at hl 0 rfl) ?_
  refine W.objInit hx hb_ C.1.2.2.2.1 (C.1.2.2.2.2 _ Ob_RX0) (C.1.2.2.2.2 _ Ob_i) (C.1.2.2.2.2 _ Ob_c) rfl (by rw [C.1.2.2.1]; exact hl.1) rfl dX0_init_1 (Nat.le_of_ble_eq_true rfl) (Nat.le_of_ble_eq_true rfl) ?_
  refine W.eq (g2 := F0 m 4 ls []) rfl ?_
  exact fn_ret C hr hlocks hR hok hE hsp (by omega) (by omega) dX0_init_4

/-! TermRows$Ladder.<init>()V -/
def z_X2_init (S : fh_S) (h : fh_H) (a : Nat) : Option (fh_S × fh_H) :=
    some (S, h)
set_option maxHeartbeats 4000000 in
set_option maxRecDepth 100000 in
theorem k_X2_init {l : Launch} {S S' : fh_S} {g : fh_G} {h h' : fh_H} (hj : fh_inj S g) (hok : fh_ok S h) {a : Nat} (ha : fh_kq S a 2 = true) (hsp : z_X2_init S h a = some (S', h')) : fc_M l yX2_init cX2_init 1 1 0 0 S g [.ref (g.2.2 a)] h S' h' := by
  unfold z_X2_init at hsp
  refine fc_head (own := RX2) (by decide) rfl rfl hj (Nat.le_of_ble_eq_true rfl) ?_
  intro p e s m below meth c ls C hN hin hr hlocks hR hl
  have hl : lv_has ls 1 [(0, .ref (g.2.2 a))] := hl
  generalize List.toArray ([.ref (g.2.2 a)] : List Value) = args at C ⊢
  have hx := C.1.1
  have hb_ := C.1.2.1
  have hE : fn_rel S g S g s.heap.size := fn_rel.rf
  refine lv_aload_n hx hb_ dX2_init_0 rfl (lv_at hl 0 rfl) ?_
  refine W.objInit hx hb_ C.1.2.2.2.1 (C.1.2.2.2.2 _ Ob_RX2) (C.1.2.2.2.2 _ Ob_i) (C.1.2.2.2.2 _ Ob_c) rfl (by rw [C.1.2.2.1]; exact hl.1) rfl dX2_init_1 (Nat.le_of_ble_eq_true rfl) (Nat.le_of_ble_eq_true rfl) ?_
  refine W.eq (g2 := F0 m 4 ls []) rfl ?_
  exact fn_ret C hr hlocks hR hok hE hsp (by omega) (by omega) dX2_init_4

/-! TermRows$Made.<init>()V -/
def z_X3_init (S : fh_S) (h : fh_H) (a : Nat) : Option (fh_S × fh_H) :=
    fh_let (fh_sI h a 0 (0 : Int32)) (fun h1 => fh_let (fh_sI h1 a 4 (1 : Int32)) (fun h2 => fh_let (fh_push S 13 60) (fun S3 => fh_let (fh_z h2 S.1) (fun h4 => fh_let (fh_sR h4 a 8 (some S.1)) (fun h9 => some (S3, h9))))))
set_option maxHeartbeats 4000000 in
set_option maxRecDepth 100000 in
theorem k_X3_init {l : Launch} {S S' : fh_S} {g : fh_G} {h h' : fh_H} (hj : fh_inj S g) (hok : fh_ok S h) {a : Nat} (ha : fh_kq S a 3 = true) (hsp : z_X3_init S h a = some (S', h')) : fc_M l yX3_init cX3_init 1 1 1 60 S g [.ref (g.2.2 a)] h S' h' := by
  unfold z_X3_init at hsp
  refine fc_head (own := RX3) (by decide) rfl rfl hj (Nat.le_of_ble_eq_true rfl) ?_
  intro p e s m below meth c ls C hN hin hr hlocks hR hl
  have hl : lv_has ls 1 [(0, .ref (g.2.2 a))] := hl
  generalize List.toArray ([.ref (g.2.2 a)] : List Value) = args at C ⊢
  have hx := C.1.1
  have hb_ := C.1.2.1
  have hE : fn_rel S g S g s.heap.size := fn_rel.rf
  refine lv_aload_n hx hb_ dX3_init_0 rfl (lv_at hl 0 rfl) ?_
  refine W.objInit hx hb_ C.1.2.2.2.1 (C.1.2.2.2.2 _ Ob_RX3) (C.1.2.2.2.2 _ Ob_i) (C.1.2.2.2.2 _ Ob_c) rfl (by rw [C.1.2.2.1]; exact hl.1) rfl dX3_init_1 (Nat.le_of_ble_eq_true rfl) (Nat.le_of_ble_eq_true rfl) ?_
  refine W.eq (g2 := F0 m 4 ls []) rfl ?_
  refine lv_aload_n hx hb_ dX3_init_4 rfl (lv_at hl 0 rfl) ?_
  refine lv_iconst (v := 0) hx hb_ dX3_init_5 (by decide) ?_
  refine fr_puti C hR ha Fp_RX3_9 rfl dX3_init_6 (fun H locs hR => ?_)
  obtain ⟨h1, eh1⟩ : ∃ z, z = fh_sI h a 0 (0 : Int32) := ⟨_, rfl⟩
  rw [← eh1] at hR
  have hsp := fr_let eh1 hsp
  have hok : fh_ok S h1 := by rw [eh1]; exact hok
  refine lv_aload_n hx hb_ dX3_init_9 rfl (lv_at hl 0 rfl) ?_
  refine lv_iconst (v := 1) hx hb_ dX3_init_10 (by decide) ?_
  refine fr_puti C hR ha Fp_RX3_15 rfl dX3_init_11 (fun H locs hR => ?_)
  obtain ⟨h2, eh2⟩ : ∃ z, z = fh_sI h1 a 4 (1 : Int32) := ⟨_, rfl⟩
  rw [← eh2] at hR
  have hsp := fr_let eh2 hsp
  have hok : fh_ok S h2 := by rw [eh2]; exact hok
  refine lv_aload_n hx hb_ dX3_init_14 rfl (lv_at hl 0 rfl) ?_
  refine lv_bipush (v := 60) hx hb_ dX3_init_15 (by decide) ?_
  refine fn_newi (n := 60) (N := 60) C hR hok Ai_int (by decide) rfl (by decide) (by show _ ≤ 1; omega) (by show _ ≤ 60; omega) dX3_init_17 (fun S3 h4 g5 H eS eh eg C hR hok hnew => ?_)
  have hsp := fr_let eS hsp
  have hsp := fr_let eh hsp
  have q6 := eg.2.2.2.1 (a) (fh_kq_lt ha)
  have hl : lv_has ls 1 [(0, .ref (g5.2.2 a))] := by rw [q6]; exact hl
  refine W.eq (g2 := F0 m 19 ls [.ref (g5.2.2 S.1), .ref (g5.2.2 a)]) (by simp only [q6]) ?_
  have hE := hE.trans eg (Nat.le_refl _)
  have hk7 := fn_kq eS ha
  have hk8 := hnew
  refine fn_putfr C hR hin hk7 Fq_RX3_18 rfl rfl rfl dX3_init_19 (fun H locs hR => ?_)
  obtain ⟨h9, eh9⟩ : ∃ z, z = fh_sR h4 a 8 (some S.1) := ⟨_, rfl⟩
  rw [← eh9] at hR
  have hsp := fr_let eh9 hsp
  have hok : fh_ok S3 h9 := by rw [eh9]; exact fh_ok_sR hok (fh_kq_lt hk8)
  exact fn_ret C hr hlocks hR hok hE hsp (by omega) (by omega) dX3_init_22

/-! TermRows$Question.<init>(LTermRows$Tape;)V -/
def z_X4_init (S : fh_S) (h : fh_H) (a : Nat) (x1 : Nat) : Option (fh_S × fh_H) :=
    fh_let (fh_sR h a 0 (some x1)) (fun h1 => some (S, h1))
set_option maxHeartbeats 4000000 in
set_option maxRecDepth 100000 in
theorem k_X4_init {l : Launch} {S S' : fh_S} {g : fh_G} {h h' : fh_H} (hj : fh_inj S g) (hok : fh_ok S h) {a : Nat} {x1 : Nat} (ha : fh_kq S a 4 = true) (k_x1 : fh_kq S x1 10 = true) (hsp : z_X4_init S h a x1 = some (S', h')) : fc_M l yX4_init cX4_init 2 1 0 0 S g [.ref (g.2.2 a), .ref (g.2.2 x1)] h S' h' := by
  unfold z_X4_init at hsp
  refine fc_head (own := RX4) (by decide) rfl rfl hj (Nat.le_of_ble_eq_true rfl) ?_
  intro p e s m below meth c ls C hN hin hr hlocks hR hl
  have hl : lv_has ls 2 [(0, .ref (g.2.2 a)), (1, .ref (g.2.2 x1))] := hl
  generalize List.toArray ([.ref (g.2.2 a), .ref (g.2.2 x1)] : List Value) = args at C ⊢
  have hx := C.1.1
  have hb_ := C.1.2.1
  have hE : fn_rel S g S g s.heap.size := fn_rel.rf
  refine lv_aload_n hx hb_ dX4_init_0 rfl (lv_at hl 0 rfl) ?_
  refine W.objInit hx hb_ C.1.2.2.2.1 (C.1.2.2.2.2 _ Ob_RX4) (C.1.2.2.2.2 _ Ob_i) (C.1.2.2.2.2 _ Ob_c) rfl (by rw [C.1.2.2.1]; exact hl.1) rfl dX4_init_1 (Nat.le_of_ble_eq_true rfl) (Nat.le_of_ble_eq_true rfl) ?_
  refine W.eq (g2 := F0 m 4 ls []) rfl ?_
  refine lv_aload_n hx hb_ dX4_init_4 rfl (lv_at hl 0 rfl) ?_
  refine lv_aload_n hx hb_ dX4_init_5 rfl (lv_at hl 1 rfl) ?_
  refine fn_putfr C hR hin ha Fq_RX4_9 rfl rfl rfl dX4_init_6 (fun H locs hR => ?_)
  obtain ⟨h1, eh1⟩ : ∃ z, z = fh_sR h a 0 (some x1) := ⟨_, rfl⟩
  rw [← eh1] at hR
  have hsp := fr_let eh1 hsp
  have hok : fh_ok S h1 := by rw [eh1]; exact fh_ok_sR hok (fh_kq_lt k_x1)
  exact fn_ret C hr hlocks hR hok hE hsp (by omega) (by omega) dX4_init_9

/-! TermRows$Reckoner.<init>()V -/
def z_X5_init (S : fh_S) (h : fh_H) (a : Nat) : Option (fh_S × fh_H) :=
    fh_let (fh_push S 0 0) (fun S1 => fh_let (fh_z h S.1) (fun h2 => fh_b2 (z_X0_init S1 h2 S.1) (fun S7 h8 => fh_ck (fh_kq S7 a 5) (fh_ck (fh_kq S7 S.1 0) (fh_let (fh_sR h8 a 0 (some S.1)) (fun h15 => fh_let (fh_push S7 0 0) (fun S16 => fh_let (fh_z h15 S7.1) (fun h17 => fh_b2 (z_X0_init S16 h17 S7.1) (fun S23 h24 => fh_ck (fh_kq S23 a 5) (fh_ck (fh_kq S23 S7.1 0) (fh_let (fh_sR h24 a 1 (some S7.1)) (fun h31 => some (S23, h31)))))))))))))
set_option maxHeartbeats 4000000 in
set_option maxRecDepth 100000 in
theorem k_X5_init {l : Launch} {S S' : fh_S} {g : fh_G} {h h' : fh_H} (hj : fh_inj S g) (hok : fh_ok S h) {a : Nat} (ha : fh_kq S a 5 = true) (hsp : z_X5_init S h a = some (S', h')) : fc_M l yX5_init cX5_init 1 2 2 8 S g [.ref (g.2.2 a)] h S' h' := by
  unfold z_X5_init at hsp
  refine fc_head (own := RX5) (by decide) rfl rfl hj (Nat.le_of_ble_eq_true rfl) ?_
  intro p e s m below meth c ls C hN hin hr hlocks hR hl
  have hl : lv_has ls 1 [(0, .ref (g.2.2 a))] := hl
  generalize List.toArray ([.ref (g.2.2 a)] : List Value) = args at C ⊢
  have hx := C.1.1
  have hb_ := C.1.2.1
  have hE : fn_rel S g S g s.heap.size := fn_rel.rf
  refine lv_aload_n hx hb_ dX5_init_0 rfl (lv_at hl 0 rfl) ?_
  refine W.objInit hx hb_ C.1.2.2.2.1 (C.1.2.2.2.2 _ Ob_RX5) (C.1.2.2.2.2 _ Ob_i) (C.1.2.2.2.2 _ Ob_c) rfl (by rw [C.1.2.2.1]; exact hl.1) rfl dX5_init_1 (Nat.le_of_ble_eq_true rfl) (Nat.le_of_ble_eq_true rfl) ?_
  refine W.eq (g2 := F0 m 4 ls []) rfl ?_
  refine lv_aload_n hx hb_ dX5_init_4 rfl (lv_at hl 0 rfl) ?_
  refine fn_new (N := 4) C hR hok Kn_RX5_9 rfl (by show _ ≤ 2; omega) (by show _ ≤ 8; omega) dX5_init_5 (fun S1 h2 g3 H eS eh eg C hR hok hnew => ?_)
  have hsp := fr_let eS hsp
  have hsp := fr_let eh hsp
  have q4 := eg.2.2.2.1 (a) (fh_kq_lt ha)
  have hl : lv_has ls 1 [(0, .ref (g3.2.2 a))] := by rw [q4]; exact hl
  refine W.eq (g2 := F0 m 8 ls [.ref (g3.2.2 S.1), .ref (g3.2.2 a)]) (by simp only [q4]) ?_
  have hE := hE.trans eg (Nat.le_refl _)
  have hk5 := fn_kq eS ha
  have hk6 := hnew
  refine lv_dup hx hb_ dX5_init_8 rfl ?_
  obtain ⟨S7, h8, E9, hsp⟩ := fr_b2 hsp
  refine fn_cN (rest := [.ref (g3.2.2 S.1), .ref (g3.2.2 a)]) C hN hR (k_X0_init C.2.2 hok hk6 E9) Y_X0_init rfl YI_X0_init hN.2.2.2.2.2.2.1 rfl hl.1 ⟨Nat.le_of_ble_eq_true rfl, Nat.le_of_ble_eq_true rfl⟩ rfl (Nat.le_of_ble_eq_true rfl) ⟨(by show _ ≤ 2; omega), (by show _ ≤ 8; omega)⟩ dX5_init_9 (fun g10 H locs eg C hR hok => ?_)
  have q11 := eg.2.2.2.1 (a) (fh_kq_lt hk5)
  have q12 := eg.2.2.2.1 (S.1) (fh_kq_lt hk6)
  have hl : lv_has ls 1 [(0, .ref (g10.2.2 a))] := by simp only [q11, q12]; exact hl
  refine W.eq (g2 := F0 m 12 ls [.ref (g10.2.2 S.1), .ref (g10.2.2 a)]) (by simp only [q11, q12]) ?_
  have hE := hE.trans eg (Nat.le_refl _)
  obtain ⟨hk13, hsp⟩ := fr_ck hsp
  obtain ⟨hk14, hsp⟩ := fr_ck hsp
  refine fr_putr C hR hk13 Fp_RX5_12 rfl rfl rfl dX5_init_12 (fun H locs hR => ?_)
  obtain ⟨h15, eh15⟩ : ∃ z, z = fh_sR h8 a 0 (some S.1) := ⟨_, rfl⟩
  rw [← eh15] at hR
  have hsp := fr_let eh15 hsp
  have hok : fh_ok S7 h15 := by rw [eh15]; exact fh_ok_sR hok (fh_kq_lt hk14)
  refine lv_aload_n hx hb_ dX5_init_15 rfl (lv_at hl 0 rfl) ?_
  refine fn_new (N := 4) C hR hok Kn_RX5_9 rfl (by show _ ≤ 2; omega) (by show _ ≤ 8; omega) dX5_init_16 (fun S16 h17 g18 H eS eh eg C hR hok hnew => ?_)
  have hsp := fr_let eS hsp
  have hsp := fr_let eh hsp
  have q19 := eg.2.2.2.1 (a) (fh_kq_lt hk13)
  have hl : lv_has ls 1 [(0, .ref (g18.2.2 a))] := by rw [q19]; exact hl
  refine W.eq (g2 := F0 m 19 ls [.ref (g18.2.2 S7.1), .ref (g18.2.2 a)]) (by simp only [q19]) ?_
  have hE := hE.trans eg (Nat.le_refl _)
  have hk20 := fn_kq eS hk13
  have hk21 := fn_kq eS hk14
  have hk22 := hnew
  refine lv_dup hx hb_ dX5_init_19 rfl ?_
  obtain ⟨S23, h24, E25, hsp⟩ := fr_b2 hsp
  refine fn_cN (rest := [.ref (g18.2.2 S7.1), .ref (g18.2.2 a)]) C hN hR (k_X0_init C.2.2 hok hk22 E25) Y_X0_init rfl YI_X0_init hN.2.2.2.2.2.2.1 rfl hl.1 ⟨Nat.le_of_ble_eq_true rfl, Nat.le_of_ble_eq_true rfl⟩ rfl (Nat.le_of_ble_eq_true rfl) ⟨(by show _ ≤ 2; omega), (by show _ ≤ 8; omega)⟩ dX5_init_20 (fun g26 H locs eg C hR hok => ?_)
  have q27 := eg.2.2.2.1 (a) (fh_kq_lt hk20)
  have q28 := eg.2.2.2.1 (S7.1) (fh_kq_lt hk22)
  have hl : lv_has ls 1 [(0, .ref (g26.2.2 a))] := by simp only [q27, q28]; exact hl
  refine W.eq (g2 := F0 m 23 ls [.ref (g26.2.2 S7.1), .ref (g26.2.2 a)]) (by simp only [q27, q28]) ?_
  have hE := hE.trans eg (Nat.le_refl _)
  obtain ⟨hk29, hsp⟩ := fr_ck hsp
  obtain ⟨hk30, hsp⟩ := fr_ck hsp
  refine fr_putr C hR hk29 Fp_RX5_18 rfl rfl rfl dX5_init_23 (fun H locs hR => ?_)
  obtain ⟨h31, eh31⟩ : ∃ z, z = fh_sR h24 a 1 (some S7.1) := ⟨_, rfl⟩
  rw [← eh31] at hR
  have hsp := fr_let eh31 hsp
  have hok : fh_ok S23 h31 := by rw [eh31]; exact fh_ok_sR hok (fh_kq_lt hk30)
  exact fn_ret C hr hlocks hR hok hE hsp (by omega) (by omega) dX5_init_26

/-! TermRows$Row.<init>(I)V -/
def z_X6_init (S : fh_S) (h : fh_H) (a : Nat) (x1 : Int32) : Option (fh_S × fh_H) :=
    fh_let (fh_push S 13 60) (fun S1 => fh_let (fh_z h S.1) (fun h2 => fh_let (fh_sR h2 a 1 (some S.1)) (fun h7 => fh_let (fh_push S1 13 60) (fun S8 => fh_let (fh_z h7 S1.1) (fun h9 => fh_let (fh_sR h9 a 2 (some S1.1)) (fun h15 => fh_let (fh_push S8 13 60) (fun S16 => fh_let (fh_z h15 S8.1) (fun h17 => fh_let (fh_sR h17 a 3 (some S8.1)) (fun h24 => fh_let (fh_push S16 3 0) (fun S25 => fh_let (fh_z h24 S16.1) (fun h26 => fh_b2 (z_X3_init S25 h26 S16.1) (fun S34 h35 => fh_ck (fh_kq S34 a 6) (fh_ck (fh_kq S34 S16.1 3) (fh_let (fh_sR h35 a 4 (some S16.1)) (fun h42 => fh_let (fh_sI h42 a 5 (1 : Int32)) (fun h43 => fh_let (fh_sI h43 a 0 x1) (fun h44 => some (S34, h44))))))))))))))))))
set_option maxHeartbeats 4000000 in
set_option maxRecDepth 100000 in
theorem k_X6_init {l : Launch} {S S' : fh_S} {g : fh_G} {h h' : fh_H} (hj : fh_inj S g) (hok : fh_ok S h) {a : Nat} {x1 : Int32} (ha : fh_kq S a 6 = true) (hsp : z_X6_init S h a x1 = some (S', h')) : fc_M l yX6_init cX6_init 2 2 5 249 S g [.ref (g.2.2 a), .int x1] h S' h' := by
  unfold z_X6_init at hsp
  refine fc_head (own := RX6) (by decide) rfl rfl hj (Nat.le_of_ble_eq_true rfl) ?_
  intro p e s m below meth c ls C hN hin hr hlocks hR hl
  have hl : lv_has ls 2 [(0, .ref (g.2.2 a)), (1, .int x1)] := hl
  generalize List.toArray ([.ref (g.2.2 a), .int x1] : List Value) = args at C ⊢
  have hx := C.1.1
  have hb_ := C.1.2.1
  have hE : fn_rel S g S g s.heap.size := fn_rel.rf
  refine lv_aload_n hx hb_ dX6_init_0 rfl (lv_at hl 0 rfl) ?_
  refine W.objInit hx hb_ C.1.2.2.2.1 (C.1.2.2.2.2 _ Ob_RX6) (C.1.2.2.2.2 _ Ob_i) (C.1.2.2.2.2 _ Ob_c) rfl (by rw [C.1.2.2.1]; exact hl.1) rfl dX6_init_1 (Nat.le_of_ble_eq_true rfl) (Nat.le_of_ble_eq_true rfl) ?_
  refine W.eq (g2 := F0 m 4 ls []) rfl ?_
  refine lv_aload_n hx hb_ dX6_init_4 rfl (lv_at hl 0 rfl) ?_
  refine lv_bipush (v := 60) hx hb_ dX6_init_5 (by decide) ?_
  refine fn_newi (n := 60) (N := 60) C hR hok Ai_int (by decide) rfl (by decide) (by show _ ≤ 5; omega) (by show _ ≤ 249; omega) dX6_init_7 (fun S1 h2 g3 H eS eh eg C hR hok hnew => ?_)
  have hsp := fr_let eS hsp
  have hsp := fr_let eh hsp
  have q4 := eg.2.2.2.1 (a) (fh_kq_lt ha)
  have hl : lv_has ls 2 [(0, .ref (g3.2.2 a)), (1, .int x1)] := by rw [q4]; exact hl
  refine W.eq (g2 := F0 m 9 ls [.ref (g3.2.2 S.1), .ref (g3.2.2 a)]) (by simp only [q4]) ?_
  have hE := hE.trans eg (Nat.le_refl _)
  have hk5 := fn_kq eS ha
  have hk6 := hnew
  refine fn_putfr C hR hin hk5 Fq_RX6_9 rfl rfl rfl dX6_init_9 (fun H locs hR => ?_)
  obtain ⟨h7, eh7⟩ : ∃ z, z = fh_sR h2 a 1 (some S.1) := ⟨_, rfl⟩
  rw [← eh7] at hR
  have hsp := fr_let eh7 hsp
  have hok : fh_ok S1 h7 := by rw [eh7]; exact fh_ok_sR hok (fh_kq_lt hk6)
  refine lv_aload_n hx hb_ dX6_init_12 rfl (lv_at hl 0 rfl) ?_
  refine lv_bipush (v := 60) hx hb_ dX6_init_13 (by decide) ?_
  refine fn_newi (n := 60) (N := 60) C hR hok Ai_int (by decide) rfl (by decide) (by show _ ≤ 5; omega) (by show _ ≤ 249; omega) dX6_init_15 (fun S8 h9 g10 H eS eh eg C hR hok hnew => ?_)
  have hsp := fr_let eS hsp
  have hsp := fr_let eh hsp
  have q11 := eg.2.2.2.1 (a) (fh_kq_lt hk5)
  have hl : lv_has ls 2 [(0, .ref (g10.2.2 a)), (1, .int x1)] := by rw [q11]; exact hl
  refine W.eq (g2 := F0 m 17 ls [.ref (g10.2.2 S1.1), .ref (g10.2.2 a)]) (by simp only [q11]) ?_
  have hE := hE.trans eg (Nat.le_refl _)
  have hk12 := fn_kq eS hk5
  have hk13 := fn_kq eS hk6
  have hk14 := hnew
  refine fn_putfr C hR hin hk12 Fq_RX6_15 rfl rfl rfl dX6_init_17 (fun H locs hR => ?_)
  obtain ⟨h15, eh15⟩ : ∃ z, z = fh_sR h9 a 2 (some S1.1) := ⟨_, rfl⟩
  rw [← eh15] at hR
  have hsp := fr_let eh15 hsp
  have hok : fh_ok S8 h15 := by rw [eh15]; exact fh_ok_sR hok (fh_kq_lt hk14)
  refine lv_aload_n hx hb_ dX6_init_20 rfl (lv_at hl 0 rfl) ?_
  refine lv_bipush (v := 60) hx hb_ dX6_init_21 (by decide) ?_
  refine fn_newi (n := 60) (N := 60) C hR hok Ai_int (by decide) rfl (by decide) (by show _ ≤ 5; omega) (by show _ ≤ 249; omega) dX6_init_23 (fun S16 h17 g18 H eS eh eg C hR hok hnew => ?_)
  have hsp := fr_let eS hsp
  have hsp := fr_let eh hsp
  have q19 := eg.2.2.2.1 (a) (fh_kq_lt hk12)
  have hl : lv_has ls 2 [(0, .ref (g18.2.2 a)), (1, .int x1)] := by rw [q19]; exact hl
  refine W.eq (g2 := F0 m 25 ls [.ref (g18.2.2 S8.1), .ref (g18.2.2 a)]) (by simp only [q19]) ?_
  have hE := hE.trans eg (Nat.le_refl _)
  have hk20 := fn_kq eS hk12
  have hk21 := fn_kq eS hk13
  have hk22 := fn_kq eS hk14
  have hk23 := hnew
  refine fn_putfr C hR hin hk20 Fq_RX6_18 rfl rfl rfl dX6_init_25 (fun H locs hR => ?_)
  obtain ⟨h24, eh24⟩ : ∃ z, z = fh_sR h17 a 3 (some S8.1) := ⟨_, rfl⟩
  rw [← eh24] at hR
  have hsp := fr_let eh24 hsp
  have hok : fh_ok S16 h24 := by rw [eh24]; exact fh_ok_sR hok (fh_kq_lt hk23)
  refine lv_aload_n hx hb_ dX6_init_28 rfl (lv_at hl 0 rfl) ?_
  refine fn_new (N := 9) C hR hok Kn_RX6_21 rfl (by show _ ≤ 5; omega) (by show _ ≤ 249; omega) dX6_init_29 (fun S25 h26 g27 H eS eh eg C hR hok hnew => ?_)
  have hsp := fr_let eS hsp
  have hsp := fr_let eh hsp
  have q28 := eg.2.2.2.1 (a) (fh_kq_lt hk20)
  have hl : lv_has ls 2 [(0, .ref (g27.2.2 a)), (1, .int x1)] := by rw [q28]; exact hl
  refine W.eq (g2 := F0 m 32 ls [.ref (g27.2.2 S16.1), .ref (g27.2.2 a)]) (by simp only [q28]) ?_
  have hE := hE.trans eg (Nat.le_refl _)
  have hk29 := fn_kq eS hk20
  have hk30 := fn_kq eS hk21
  have hk31 := fn_kq eS hk22
  have hk32 := fn_kq eS hk23
  have hk33 := hnew
  refine lv_dup hx hb_ dX6_init_32 rfl ?_
  obtain ⟨S34, h35, E36, hsp⟩ := fr_b2 hsp
  refine fn_cN (rest := [.ref (g27.2.2 S16.1), .ref (g27.2.2 a)]) C hN hR (k_X3_init C.2.2 hok hk33 E36) Y_X3_init rfl YI_X3_init hN.2.2.2.2.2.2.2.1 rfl hl.1 ⟨Nat.le_of_ble_eq_true rfl, Nat.le_of_ble_eq_true rfl⟩ rfl (Nat.le_of_ble_eq_true rfl) ⟨(by show _ ≤ 5; omega), (by show _ ≤ 249; omega)⟩ dX6_init_33 (fun g37 H locs eg C hR hok => ?_)
  have q38 := eg.2.2.2.1 (a) (fh_kq_lt hk29)
  have q39 := eg.2.2.2.1 (S16.1) (fh_kq_lt hk33)
  have hl : lv_has ls 2 [(0, .ref (g37.2.2 a)), (1, .int x1)] := by simp only [q38, q39]; exact hl
  refine W.eq (g2 := F0 m 36 ls [.ref (g37.2.2 S16.1), .ref (g37.2.2 a)]) (by simp only [q38, q39]) ?_
  have hE := hE.trans eg (Nat.le_refl _)
  obtain ⟨hk40, hsp⟩ := fr_ck hsp
  obtain ⟨hk41, hsp⟩ := fr_ck hsp
  refine fr_putr C hR hk40 Fp_RX6_24 rfl rfl rfl dX6_init_36 (fun H locs hR => ?_)
  obtain ⟨h42, eh42⟩ : ∃ z, z = fh_sR h35 a 4 (some S16.1) := ⟨_, rfl⟩
  rw [← eh42] at hR
  have hsp := fr_let eh42 hsp
  have hok : fh_ok S34 h42 := by rw [eh42]; exact fh_ok_sR hok (fh_kq_lt hk41)
  refine lv_aload_n hx hb_ dX6_init_39 rfl (lv_at hl 0 rfl) ?_
  refine lv_iconst (v := 1) hx hb_ dX6_init_40 (by decide) ?_
  refine fr_putz C hR hk40 Fp_RX6_28 rfl (Or.inr rfl) dX6_init_41 (fun H locs hR => ?_)
  obtain ⟨h43, eh43⟩ : ∃ z, z = fh_sI h42 a 5 (1 : Int32) := ⟨_, rfl⟩
  rw [← eh43] at hR
  have hsp := fr_let eh43 hsp
  have hok : fh_ok S34 h43 := by rw [eh43]; exact hok
  refine lv_aload_n hx hb_ dX6_init_44 rfl (lv_at hl 0 rfl) ?_
  refine lv_iload_n hx hb_ dX6_init_45 rfl (lv_at hl 1 rfl) ?_
  refine fn_putfi C hR hin hk40 Fq_RX6_32 rfl dX6_init_46 (fun H locs hR => ?_)
  obtain ⟨h44, eh44⟩ : ∃ z, z = fh_sI h43 a 0 x1 := ⟨_, rfl⟩
  rw [← eh44] at hR
  have hsp := fr_let eh44 hsp
  have hok : fh_ok S34 h44 := by rw [eh44]; exact hok
  exact fn_ret C hr hlocks hR hok hE hsp (by omega) (by omega) dX6_init_49

/-! TermRows$RowText.<init>(LTermRows$Tape;)V -/
def z_X7_init (S : fh_S) (h : fh_H) (a : Nat) (x1 : Nat) : Option (fh_S × fh_H) :=
    fh_let (fh_push S 13 60) (fun S1 => fh_let (fh_z h S.1) (fun h2 => fh_let (fh_sR h2 a 1 (some S.1)) (fun h9 => fh_let (fh_sR h9 a 0 (some x1)) (fun h10 => some (S1, h10)))))
set_option maxHeartbeats 4000000 in
set_option maxRecDepth 100000 in
theorem k_X7_init {l : Launch} {S S' : fh_S} {g : fh_G} {h h' : fh_H} (hj : fh_inj S g) (hok : fh_ok S h) {a : Nat} {x1 : Nat} (ha : fh_kq S a 7 = true) (k_x1 : fh_kq S x1 10 = true) (hsp : z_X7_init S h a x1 = some (S', h')) : fc_M l yX7_init cX7_init 2 1 1 60 S g [.ref (g.2.2 a), .ref (g.2.2 x1)] h S' h' := by
  unfold z_X7_init at hsp
  refine fc_head (own := RX7) (by decide) rfl rfl hj (Nat.le_of_ble_eq_true rfl) ?_
  intro p e s m below meth c ls C hN hin hr hlocks hR hl
  have hl : lv_has ls 2 [(0, .ref (g.2.2 a)), (1, .ref (g.2.2 x1))] := hl
  generalize List.toArray ([.ref (g.2.2 a), .ref (g.2.2 x1)] : List Value) = args at C ⊢
  have hx := C.1.1
  have hb_ := C.1.2.1
  have hE : fn_rel S g S g s.heap.size := fn_rel.rf
  refine lv_aload_n hx hb_ dX7_init_0 rfl (lv_at hl 0 rfl) ?_
  refine W.objInit hx hb_ C.1.2.2.2.1 (C.1.2.2.2.2 _ Ob_RX7) (C.1.2.2.2.2 _ Ob_i) (C.1.2.2.2.2 _ Ob_c) rfl (by rw [C.1.2.2.1]; exact hl.1) rfl dX7_init_1 (Nat.le_of_ble_eq_true rfl) (Nat.le_of_ble_eq_true rfl) ?_
  refine W.eq (g2 := F0 m 4 ls []) rfl ?_
  refine lv_aload_n hx hb_ dX7_init_4 rfl (lv_at hl 0 rfl) ?_
  refine lv_bipush (v := 60) hx hb_ dX7_init_5 (by decide) ?_
  refine fn_newi (n := 60) (N := 60) C hR hok Ai_int (by decide) rfl (by decide) (by show _ ≤ 1; omega) (by show _ ≤ 60; omega) dX7_init_7 (fun S1 h2 g3 H eS eh eg C hR hok hnew => ?_)
  have hsp := fr_let eS hsp
  have hsp := fr_let eh hsp
  have q4 := eg.2.2.2.1 (a) (fh_kq_lt ha)
  have q5 := eg.2.2.2.1 (x1) (fh_kq_lt k_x1)
  have hl : lv_has ls 2 [(0, .ref (g3.2.2 a)), (1, .ref (g3.2.2 x1))] := by rw [q4, q5]; exact hl
  refine W.eq (g2 := F0 m 9 ls [.ref (g3.2.2 S.1), .ref (g3.2.2 a)]) (by simp only [q4, q5]) ?_
  have hE := hE.trans eg (Nat.le_refl _)
  have hk6 := fn_kq eS ha
  have hk7 := fn_kq eS k_x1
  have hk8 := hnew
  refine fn_putfr C hR hin hk6 Fq_RX7_9 rfl rfl rfl dX7_init_9 (fun H locs hR => ?_)
  obtain ⟨h9, eh9⟩ : ∃ z, z = fh_sR h2 a 1 (some S.1) := ⟨_, rfl⟩
  rw [← eh9] at hR
  have hsp := fr_let eh9 hsp
  have hok : fh_ok S1 h9 := by rw [eh9]; exact fh_ok_sR hok (fh_kq_lt hk8)
  refine lv_aload_n hx hb_ dX7_init_12 rfl (lv_at hl 0 rfl) ?_
  refine lv_aload_n hx hb_ dX7_init_13 rfl (lv_at hl 1 rfl) ?_
  refine fn_putfr C hR hin hk6 Fq_RX7_15 rfl rfl rfl dX7_init_14 (fun H locs hR => ?_)
  obtain ⟨h10, eh10⟩ : ∃ z, z = fh_sR h9 a 0 (some x1) := ⟨_, rfl⟩
  rw [← eh10] at hR
  have hsp := fr_let eh10 hsp
  have hok : fh_ok S1 h10 := by rw [eh10]; exact fh_ok_sR hok (fh_kq_lt hk7)
  exact fn_ret C hr hlocks hR hok hE hsp (by omega) (by omega) dX7_init_17

/-! TermRows$Saying.<init>()V -/
def z_X8_init (S : fh_S) (h : fh_H) (a : Nat) : Option (fh_S × fh_H) :=
    fh_let (fh_push S 13 800) (fun S1 => fh_let (fh_z h S.1) (fun h2 => fh_let (fh_sR h2 a 0 (some S.1)) (fun h7 => some (S1, h7))))
set_option maxHeartbeats 4000000 in
set_option maxRecDepth 100000 in
theorem k_X8_init {l : Launch} {S S' : fh_S} {g : fh_G} {h h' : fh_H} (hj : fh_inj S g) (hok : fh_ok S h) {a : Nat} (ha : fh_kq S a 8 = true) (hsp : z_X8_init S h a = some (S', h')) : fc_M l yX8_init cX8_init 1 1 1 800 S g [.ref (g.2.2 a)] h S' h' := by
  unfold z_X8_init at hsp
  refine fc_head (own := RX8) (by decide) rfl rfl hj (Nat.le_of_ble_eq_true rfl) ?_
  intro p e s m below meth c ls C hN hin hr hlocks hR hl
  have hl : lv_has ls 1 [(0, .ref (g.2.2 a))] := hl
  generalize List.toArray ([.ref (g.2.2 a)] : List Value) = args at C ⊢
  have hx := C.1.1
  have hb_ := C.1.2.1
  have hE : fn_rel S g S g s.heap.size := fn_rel.rf
  refine lv_aload_n hx hb_ dX8_init_0 rfl (lv_at hl 0 rfl) ?_
  refine W.objInit hx hb_ C.1.2.2.2.1 (C.1.2.2.2.2 _ Ob_RX8) (C.1.2.2.2.2 _ Ob_i) (C.1.2.2.2.2 _ Ob_c) rfl (by rw [C.1.2.2.1]; exact hl.1) rfl dX8_init_1 (Nat.le_of_ble_eq_true rfl) (Nat.le_of_ble_eq_true rfl) ?_
  refine W.eq (g2 := F0 m 4 ls []) rfl ?_
  refine lv_aload_n hx hb_ dX8_init_4 rfl (lv_at hl 0 rfl) ?_
  refine lv_sipush (v := 800) hx hb_ dX8_init_5 (by decide) ?_
  refine fn_newi (n := 800) (N := 800) C hR hok Ai_int (by decide) rfl (by decide) (by show _ ≤ 1; omega) (by show _ ≤ 800; omega) dX8_init_8 (fun S1 h2 g3 H eS eh eg C hR hok hnew => ?_)
  have hsp := fr_let eS hsp
  have hsp := fr_let eh hsp
  have q4 := eg.2.2.2.1 (a) (fh_kq_lt ha)
  have hl : lv_has ls 1 [(0, .ref (g3.2.2 a))] := by rw [q4]; exact hl
  refine W.eq (g2 := F0 m 10 ls [.ref (g3.2.2 S.1), .ref (g3.2.2 a)]) (by simp only [q4]) ?_
  have hE := hE.trans eg (Nat.le_refl _)
  have hk5 := fn_kq eS ha
  have hk6 := hnew
  refine fn_putfr C hR hin hk5 Fq_RX8_9 rfl rfl rfl dX8_init_10 (fun H locs hR => ?_)
  obtain ⟨h7, eh7⟩ : ∃ z, z = fh_sR h2 a 0 (some S.1) := ⟨_, rfl⟩
  rw [← eh7] at hR
  have hsp := fr_let eh7 hsp
  have hok : fh_ok S1 h7 := by rw [eh7]; exact fh_ok_sR hok (fh_kq_lt hk6)
  exact fn_ret C hr hlocks hR hok hE hsp (by omega) (by omega) dX8_init_13

/-! TermRows$Surd.<init>()V -/
def z_X9_init (S : fh_S) (h : fh_H) (a : Nat) : Option (fh_S × fh_H) :=
    some (S, h)
set_option maxHeartbeats 4000000 in
set_option maxRecDepth 100000 in
theorem k_X9_init {l : Launch} {S S' : fh_S} {g : fh_G} {h h' : fh_H} (hj : fh_inj S g) (hok : fh_ok S h) {a : Nat} (ha : fh_kq S a 9 = true) (hsp : z_X9_init S h a = some (S', h')) : fc_M l yX9_init cX9_init 1 1 0 0 S g [.ref (g.2.2 a)] h S' h' := by
  unfold z_X9_init at hsp
  refine fc_head (own := RX9) (by decide) rfl rfl hj (Nat.le_of_ble_eq_true rfl) ?_
  intro p e s m below meth c ls C hN hin hr hlocks hR hl
  have hl : lv_has ls 1 [(0, .ref (g.2.2 a))] := hl
  generalize List.toArray ([.ref (g.2.2 a)] : List Value) = args at C ⊢
  have hx := C.1.1
  have hb_ := C.1.2.1
  have hE : fn_rel S g S g s.heap.size := fn_rel.rf
  refine lv_aload_n hx hb_ dX9_init_0 rfl (lv_at hl 0 rfl) ?_
  refine W.objInit hx hb_ C.1.2.2.2.1 (C.1.2.2.2.2 _ Ob_RX9) (C.1.2.2.2.2 _ Ob_i) (C.1.2.2.2.2 _ Ob_c) rfl (by rw [C.1.2.2.1]; exact hl.1) rfl dX9_init_1 (Nat.le_of_ble_eq_true rfl) (Nat.le_of_ble_eq_true rfl) ?_
  refine W.eq (g2 := F0 m 4 ls []) rfl ?_
  exact fn_ret C hr hlocks hR hok hE hsp (by omega) (by omega) dX9_init_4

/-! TermRows$Tape.<init>()V -/
def z_X10_init (S : fh_S) (h : fh_H) (a : Nat) : Option (fh_S × fh_H) :=
    fh_let (fh_push S 13 200) (fun S1 => fh_let (fh_z h S.1) (fun h2 => fh_let (fh_sR h2 a 0 (some S.1)) (fun h7 => fh_let (fh_push S1 13 201) (fun S8 => fh_let (fh_z h7 S1.1) (fun h9 => fh_let (fh_sR h9 a 1 (some S1.1)) (fun h15 => fh_let (fh_push S8 13 201) (fun S16 => fh_let (fh_z h15 S8.1) (fun h17 => fh_let (fh_sR h17 a 2 (some S8.1)) (fun h24 => fh_let (fh_push S16 13 201) (fun S25 => fh_let (fh_z h24 S16.1) (fun h26 => fh_let (fh_sR h26 a 3 (some S16.1)) (fun h34 => fh_let (fh_sI h34 a 8 (-1 : Int32)) (fun h35 => some (S25, h35))))))))))))))
set_option maxHeartbeats 4000000 in
set_option maxRecDepth 100000 in
theorem k_X10_init {l : Launch} {S S' : fh_S} {g : fh_G} {h h' : fh_H} (hj : fh_inj S g) (hok : fh_ok S h) {a : Nat} (ha : fh_kq S a 10 = true) (hsp : z_X10_init S h a = some (S', h')) : fc_M l yX10_init cX10_init 1 1 4 803 S g [.ref (g.2.2 a)] h S' h' := by
  unfold z_X10_init at hsp
  refine fc_head (own := RX10) (by decide) rfl rfl hj (Nat.le_of_ble_eq_true rfl) ?_
  intro p e s m below meth c ls C hN hin hr hlocks hR hl
  have hl : lv_has ls 1 [(0, .ref (g.2.2 a))] := hl
  generalize List.toArray ([.ref (g.2.2 a)] : List Value) = args at C ⊢
  have hx := C.1.1
  have hb_ := C.1.2.1
  have hE : fn_rel S g S g s.heap.size := fn_rel.rf
  refine lv_aload_n hx hb_ dX10_init_0 rfl (lv_at hl 0 rfl) ?_
  refine W.objInit hx hb_ C.1.2.2.2.1 (C.1.2.2.2.2 _ Ob_RX10) (C.1.2.2.2.2 _ Ob_i) (C.1.2.2.2.2 _ Ob_c) rfl (by rw [C.1.2.2.1]; exact hl.1) rfl dX10_init_1 (Nat.le_of_ble_eq_true rfl) (Nat.le_of_ble_eq_true rfl) ?_
  refine W.eq (g2 := F0 m 4 ls []) rfl ?_
  refine lv_aload_n hx hb_ dX10_init_4 rfl (lv_at hl 0 rfl) ?_
  refine lv_sipush (v := 200) hx hb_ dX10_init_5 (by decide) ?_
  refine fn_newi (n := 200) (N := 200) C hR hok Ai_int (by decide) rfl (by decide) (by show _ ≤ 4; omega) (by show _ ≤ 803; omega) dX10_init_8 (fun S1 h2 g3 H eS eh eg C hR hok hnew => ?_)
  have hsp := fr_let eS hsp
  have hsp := fr_let eh hsp
  have q4 := eg.2.2.2.1 (a) (fh_kq_lt ha)
  have hl : lv_has ls 1 [(0, .ref (g3.2.2 a))] := by rw [q4]; exact hl
  refine W.eq (g2 := F0 m 10 ls [.ref (g3.2.2 S.1), .ref (g3.2.2 a)]) (by simp only [q4]) ?_
  have hE := hE.trans eg (Nat.le_refl _)
  have hk5 := fn_kq eS ha
  have hk6 := hnew
  refine fn_putfr C hR hin hk5 Fq_RX10_9 rfl rfl rfl dX10_init_10 (fun H locs hR => ?_)
  obtain ⟨h7, eh7⟩ : ∃ z, z = fh_sR h2 a 0 (some S.1) := ⟨_, rfl⟩
  rw [← eh7] at hR
  have hsp := fr_let eh7 hsp
  have hok : fh_ok S1 h7 := by rw [eh7]; exact fh_ok_sR hok (fh_kq_lt hk6)
  refine lv_aload_n hx hb_ dX10_init_13 rfl (lv_at hl 0 rfl) ?_
  refine lv_sipush (v := 201) hx hb_ dX10_init_14 (by decide) ?_
  refine fn_newi (n := 201) (N := 201) C hR hok Ai_int (by decide) rfl (by decide) (by show _ ≤ 4; omega) (by show _ ≤ 803; omega) dX10_init_17 (fun S8 h9 g10 H eS eh eg C hR hok hnew => ?_)
  have hsp := fr_let eS hsp
  have hsp := fr_let eh hsp
  have q11 := eg.2.2.2.1 (a) (fh_kq_lt hk5)
  have hl : lv_has ls 1 [(0, .ref (g10.2.2 a))] := by rw [q11]; exact hl
  refine W.eq (g2 := F0 m 19 ls [.ref (g10.2.2 S1.1), .ref (g10.2.2 a)]) (by simp only [q11]) ?_
  have hE := hE.trans eg (Nat.le_refl _)
  have hk12 := fn_kq eS hk5
  have hk13 := fn_kq eS hk6
  have hk14 := hnew
  refine fn_putfr C hR hin hk12 Fq_RX10_15 rfl rfl rfl dX10_init_19 (fun H locs hR => ?_)
  obtain ⟨h15, eh15⟩ : ∃ z, z = fh_sR h9 a 1 (some S1.1) := ⟨_, rfl⟩
  rw [← eh15] at hR
  have hsp := fr_let eh15 hsp
  have hok : fh_ok S8 h15 := by rw [eh15]; exact fh_ok_sR hok (fh_kq_lt hk14)
  refine lv_aload_n hx hb_ dX10_init_22 rfl (lv_at hl 0 rfl) ?_
  refine lv_sipush (v := 201) hx hb_ dX10_init_23 (by decide) ?_
  refine fn_newi (n := 201) (N := 201) C hR hok Ai_int (by decide) rfl (by decide) (by show _ ≤ 4; omega) (by show _ ≤ 803; omega) dX10_init_26 (fun S16 h17 g18 H eS eh eg C hR hok hnew => ?_)
  have hsp := fr_let eS hsp
  have hsp := fr_let eh hsp
  have q19 := eg.2.2.2.1 (a) (fh_kq_lt hk12)
  have hl : lv_has ls 1 [(0, .ref (g18.2.2 a))] := by rw [q19]; exact hl
  refine W.eq (g2 := F0 m 28 ls [.ref (g18.2.2 S8.1), .ref (g18.2.2 a)]) (by simp only [q19]) ?_
  have hE := hE.trans eg (Nat.le_refl _)
  have hk20 := fn_kq eS hk12
  have hk21 := fn_kq eS hk13
  have hk22 := fn_kq eS hk14
  have hk23 := hnew
  refine fn_putfr C hR hin hk20 Fq_RX10_18 rfl rfl rfl dX10_init_28 (fun H locs hR => ?_)
  obtain ⟨h24, eh24⟩ : ∃ z, z = fh_sR h17 a 2 (some S8.1) := ⟨_, rfl⟩
  rw [← eh24] at hR
  have hsp := fr_let eh24 hsp
  have hok : fh_ok S16 h24 := by rw [eh24]; exact fh_ok_sR hok (fh_kq_lt hk23)
  refine lv_aload_n hx hb_ dX10_init_31 rfl (lv_at hl 0 rfl) ?_
  refine lv_sipush (v := 201) hx hb_ dX10_init_32 (by decide) ?_
  refine fn_newi (n := 201) (N := 201) C hR hok Ai_int (by decide) rfl (by decide) (by show _ ≤ 4; omega) (by show _ ≤ 803; omega) dX10_init_35 (fun S25 h26 g27 H eS eh eg C hR hok hnew => ?_)
  have hsp := fr_let eS hsp
  have hsp := fr_let eh hsp
  have q28 := eg.2.2.2.1 (a) (fh_kq_lt hk20)
  have hl : lv_has ls 1 [(0, .ref (g27.2.2 a))] := by rw [q28]; exact hl
  refine W.eq (g2 := F0 m 37 ls [.ref (g27.2.2 S16.1), .ref (g27.2.2 a)]) (by simp only [q28]) ?_
  have hE := hE.trans eg (Nat.le_refl _)
  have hk29 := fn_kq eS hk20
  have hk30 := fn_kq eS hk21
  have hk31 := fn_kq eS hk22
  have hk32 := fn_kq eS hk23
  have hk33 := hnew
  refine fn_putfr C hR hin hk29 Fq_RX10_21 rfl rfl rfl dX10_init_37 (fun H locs hR => ?_)
  obtain ⟨h34, eh34⟩ : ∃ z, z = fh_sR h26 a 3 (some S16.1) := ⟨_, rfl⟩
  rw [← eh34] at hR
  have hsp := fr_let eh34 hsp
  have hok : fh_ok S25 h34 := by rw [eh34]; exact fh_ok_sR hok (fh_kq_lt hk33)
  refine lv_aload_n hx hb_ dX10_init_40 rfl (lv_at hl 0 rfl) ?_
  refine lv_iconst (v := -1) hx hb_ dX10_init_41 (by decide) ?_
  refine fr_puti C hR hk29 Fp_RX10_24 rfl dX10_init_42 (fun H locs hR => ?_)
  obtain ⟨h35, eh35⟩ : ∃ z, z = fh_sI h34 a 8 (-1 : Int32) := ⟨_, rfl⟩
  rw [← eh35] at hR
  have hsp := fr_let eh35 hsp
  have hok : fh_ok S25 h35 := by rw [eh35]; exact hok
  exact fn_ret C hr hlocks hR hok hE hsp (by omega) (by omega) dX10_init_45

/-! TermRows$History.<init>()V -/
def z_X1_init_b24 : Nat → Nat → fh_S → fh_H → Int32 → Option (fh_S × fh_H)
  | 0, _, _, _, _ => none
  | n + 1, a, Sx, hx1, y1 =>
    fh_ck (fh_kq Sx a 1) (if (16 : Int32) ≤ y1 then (some (Sx, hx1)) else (fh_b1 (hx1.2.2 a 1) (fun j103 => fh_ck (fh_kq Sx j103 15) (if (Int32.ofNat (Sx.2.2 j103)) ≤ y1 then (some (Sx, hx1)) else (fh_let (fh_push Sx 3 0) (fun S107 => fh_let (fh_z hx1 Sx.1) (fun h108 => fh_b2 (z_X3_init S107 h108 Sx.1) (fun S115 h116 => fh_ck (fh_kq S115 a 1) (fh_ck (fh_kq S115 j103 15) (fh_ck (fh_in y1 (S115.2.2 j103)) (fh_ck (fh_kq S115 Sx.1 3) (fh_let (fh_sR h116 j103 (Int32.toNatClampNeg y1) (some Sx.1)) (fun h126 => fh_let (y1 + 1) (fun v127 => z_X1_init_b24 n a S115 h126 v127))))))))))))))
def z_X1_init (S : fh_S) (h : fh_H) (a : Nat) : Option (fh_S × fh_H) :=
    fh_let (fh_push S 16 16) (fun S1 => fh_let (fh_z h S.1) (fun h2 => fh_let (fh_sR h2 a 0 (some S.1)) (fun h7 => fh_let (fh_push S1 15 16) (fun S8 => fh_let (fh_z h7 S1.1) (fun h9 => fh_let (fh_sR h9 a 1 (some S1.1)) (fun h15 => z_X1_init_b24 17 a S8 h15 (0 : Int32)))))))
set_option maxHeartbeats 4000000 in
set_option maxRecDepth 100000 in
theorem k_X1_init {l : Launch} {S S' : fh_S} {g : fh_G} {h h' : fh_H} (hj : fh_inj S g) (hok : fh_ok S h) {a : Nat} (ha : fh_kq S a 1 = true) (hsp : z_X1_init S h a = some (S', h')) : fc_M l yX1_init cX1_init 2 2 36 1205 S g [.ref (g.2.2 a)] h S' h' := by
  unfold z_X1_init at hsp
  refine fc_head (own := RX1) (by decide) rfl rfl hj (Nat.le_of_ble_eq_true rfl) ?_
  intro p e s m below meth c ls C hN hin hr hlocks hR hl
  have hl : lv_has ls 2 [(0, .ref (g.2.2 a))] := hl
  generalize List.toArray ([.ref (g.2.2 a)] : List Value) = args at C ⊢
  have hx := C.1.1
  have hb_ := C.1.2.1
  have hE : fn_rel S g S g s.heap.size := fn_rel.rf
  have hb : ∀ (n : Nat) (Sx : fh_S) (gx : fh_G) (hx1 : fh_H) (y1 : Int32) (H : Heap) (locs : List Loc) (ls : Array Slot) (cells slots : Nat), z_X1_init_b24 n a Sx hx1 y1 = some (S', h') → fh_C p m c cX1_init 2 s args RX1 Sx gx → fh_R Sx gx s.heap hx1 H locs → fh_ok Sx hx1 → fn_rel S g Sx gx s.heap.size → cells + 2 * n ≤ 36 → slots + 69 * n ≤ 1205 → lv_has ls 2 [(0, .ref (gx.2.2 a)), (1, .int y1)] → W p l e (fc_rm 2 36 1205) s m args below meth c H locs cells slots (MQ below (fc_Q S g s.heap.size S' h') args s 36 1205 (fh_A S g s.heap.size)) (F0 m 24 ls []) := by
    intro n
    induction n with
    | zero => intro Sx gx hx1 y1 H locs ls cells slots hsp; cases hsp
    | succ n ih =>
      intro Sx gx hx1 y1 H locs ls cells slots hsp C hR hok hE hcs hss hl
      rw [z_X1_init_b24] at hsp
      obtain ⟨hk101, hsp⟩ := fr_ck hsp
      refine lv_iload_n hx hb_ dX1_init_24 rfl (lv_at hl 1 rfl) ?_
      refine lv_bipush (v := 16) hx hb_ dX1_init_25 (by decide) ?_
      refine lv_icmp_ge (tgt := 58) hx hb_ dX1_init_27 (by decide) (fun c102 => ?_) (fun c102 => ?_)
      · rw [if_pos c102] at hsp
        exact fn_ret C hr hlocks hR hok hE hsp (by omega) (by omega) dX1_init_58
      · rw [if_neg c102] at hsp
        refine lv_iload_n hx hb_ dX1_init_30 rfl (lv_at hl 1 rfl) ?_
        refine lv_aload_n hx hb_ dX1_init_31 rfl (lv_at hl 0 rfl) ?_
        obtain ⟨j103, hv104, hsp⟩ := fr_b1 hsp
        refine fr_getr C hR hk101 Fg_RX1_19 rfl hv104 dX1_init_32 ?_
        obtain ⟨hk105, hsp⟩ := fr_ck hsp
        refine fr_alen C hR hk105 (Or.inr (Or.inr (Or.inl rfl))) dX1_init_35 ?_
        refine lv_icmp_ge (tgt := 58) hx hb_ dX1_init_36 (by decide) (fun c106 => ?_) (fun c106 => ?_)
        · rw [if_pos c106] at hsp
          exact fn_ret C hr hlocks hR hok hE hsp (by omega) (by omega) dX1_init_58
        · rw [if_neg c106] at hsp
          refine lv_aload_n hx hb_ dX1_init_39 rfl (lv_at hl 0 rfl) ?_
          refine fr_getr C hR hk101 Fg_RX1_19 rfl hv104 dX1_init_40 ?_
          refine lv_iload_n hx hb_ dX1_init_43 rfl (lv_at hl 1 rfl) ?_
          refine fn_new (N := 9) C hR hok Kn_RX1_17 rfl (by show _ ≤ 36; omega) (by show _ ≤ 1205; omega) dX1_init_44 (fun S107 h108 g109 H eS eh eg C hR hok hnew => ?_)
          have hsp := fr_let eS hsp
          have hsp := fr_let eh hsp
          have q110 := eg.2.2.2.1 (a) (fh_kq_lt hk101)
          have q111 := eg.2.2.2.1 (j103) (fh_kq_lt hk105)
          have hl : lv_has ls 2 [(0, .ref (g109.2.2 a)), (1, .int y1)] := by simp only [q110, q111]; exact hl
          refine W.eq (g2 := F0 m 47 ls [.ref (g109.2.2 Sx.1), .int y1, .ref (g109.2.2 j103)]) (by simp only [q110, q111]) ?_
          have hE := hE.trans eg (Nat.le_refl _)
          have hk112 := fn_kq eS hk101
          have hk113 := fn_kq eS hk105
          have hk114 := hnew
          refine lv_dup hx hb_ dX1_init_47 rfl ?_
          obtain ⟨S115, h116, E117, hsp⟩ := fr_b2 hsp
          refine fn_cN (rest := [.ref (g109.2.2 Sx.1), .int y1, .ref (g109.2.2 j103)]) C hN hR (k_X3_init C.2.2 hok hk114 E117) Y_X3_init rfl YI_X3_init hN.2.2.2.2.2.1 rfl hl.1 ⟨Nat.le_of_ble_eq_true rfl, Nat.le_of_ble_eq_true rfl⟩ rfl (Nat.le_of_ble_eq_true rfl) ⟨(by show _ ≤ 36; omega), (by show _ ≤ 1205; omega)⟩ dX1_init_48 (fun g118 H locs eg C hR hok => ?_)
          have q119 := eg.2.2.2.1 (a) (fh_kq_lt hk112)
          have q120 := eg.2.2.2.1 (Sx.1) (fh_kq_lt hk114)
          have q121 := eg.2.2.2.1 (j103) (fh_kq_lt hk113)
          have hl : lv_has ls 2 [(0, .ref (g118.2.2 a)), (1, .int y1)] := by simp only [q119, q120, q121]; exact hl
          refine W.eq (g2 := F0 m 51 ls [.ref (g118.2.2 Sx.1), .int y1, .ref (g118.2.2 j103)]) (by simp only [q119, q120, q121]) ?_
          have hE := hE.trans eg (Nat.le_refl _)
          obtain ⟨hk122, hsp⟩ := fr_ck hsp
          obtain ⟨hk123, hsp⟩ := fr_ck hsp
          obtain ⟨hi124, hsp⟩ := fr_ck hsp
          obtain ⟨hk125, hsp⟩ := fr_ck hsp
          refine fr_aast C hR hk123 hk125 (Or.inl ⟨rfl, rfl⟩) hi124 dX1_init_51 (fun H locs hR => ?_)
          obtain ⟨h126, eh126⟩ : ∃ z, z = fh_sR h116 j103 (Int32.toNatClampNeg y1) (some Sx.1) := ⟨_, rfl⟩
          rw [← eh126] at hR
          have hsp := fr_let eh126 hsp
          have hok : fh_ok S115 h126 := by rw [eh126]; exact fh_ok_sR hok (fh_kq_lt hk125)
          obtain ⟨v127, ev127⟩ : ∃ z, z = y1 + 1 := ⟨_, rfl⟩
          have hsp := fr_let ev127 hsp
          refine lv_iinc (v := v127) (lv' := [(1, .int v127), (0, .ref (g118.2.2 a))]) hx hb_ dX1_init_52 hl (k := 1) rfl (by rw [ev127]; rfl) (by decide) rfl (fun ls hl => ?_)
          refine lv_goto (tgt := 24) hx hb_ dX1_init_55 (by decide) ?_
          exact ih S115 g118 h126 v127 _ _ _ _ _ hsp C hR hok hE (by omega) (by omega) (lv_sub hl [1, 0] rfl)
  refine lv_aload_n hx hb_ dX1_init_0 rfl (lv_at hl 0 rfl) ?_
  refine W.objInit hx hb_ C.1.2.2.2.1 (C.1.2.2.2.2 _ Ob_RX1) (C.1.2.2.2.2 _ Ob_i) (C.1.2.2.2.2 _ Ob_c) rfl (by rw [C.1.2.2.1]; exact hl.1) rfl dX1_init_1 (Nat.le_of_ble_eq_true rfl) (Nat.le_of_ble_eq_true rfl) ?_
  refine W.eq (g2 := F0 m 4 ls []) rfl ?_
  refine lv_aload_n hx hb_ dX1_init_4 rfl (lv_at hl 0 rfl) ?_
  refine lv_bipush (v := 16) hx hb_ dX1_init_5 (by decide) ?_
  refine fn_newr (n := 16) (N := 16) C hR hok Kl_RX1_9 hN.2.2.2.2.2.2.2.2.1 (by decide) rfl (by decide) (by show _ ≤ 36; omega) (by show _ ≤ 1205; omega) dX1_init_7 (fun S1 h2 g3 H eS eh eg C hR hok hnew => ?_)
  have hsp := fr_let eS hsp
  have hsp := fr_let eh hsp
  have q4 := eg.2.2.2.1 (a) (fh_kq_lt ha)
  have hl : lv_has ls 2 [(0, .ref (g3.2.2 a))] := by rw [q4]; exact hl
  refine W.eq (g2 := F0 m 10 ls [.ref (g3.2.2 S.1), .ref (g3.2.2 a)]) (by simp only [q4]) ?_
  have hE := hE.trans eg (Nat.le_refl _)
  have hk5 := fn_kq eS ha
  have hk6 := hnew
  refine fn_putfr C hR hin hk5 Fq_RX1_11 rfl rfl rfl dX1_init_10 (fun H locs hR => ?_)
  obtain ⟨h7, eh7⟩ : ∃ z, z = fh_sR h2 a 0 (some S.1) := ⟨_, rfl⟩
  rw [← eh7] at hR
  have hsp := fr_let eh7 hsp
  have hok : fh_ok S1 h7 := by rw [eh7]; exact fh_ok_sR hok (fh_kq_lt hk6)
  refine lv_aload_n hx hb_ dX1_init_13 rfl (lv_at hl 0 rfl) ?_
  refine lv_bipush (v := 16) hx hb_ dX1_init_14 (by decide) ?_
  refine fn_newm (n := 16) (N := 16) C hR hok Kl_RX1_17 hN.2.2.2.2.2.2.2.2.2 (by decide) rfl (by decide) (by show _ ≤ 36; omega) (by show _ ≤ 1205; omega) dX1_init_16 (fun S8 h9 g10 H eS eh eg C hR hok hnew => ?_)
  have hsp := fr_let eS hsp
  have hsp := fr_let eh hsp
  have q11 := eg.2.2.2.1 (a) (fh_kq_lt hk5)
  have hl : lv_has ls 2 [(0, .ref (g10.2.2 a))] := by rw [q11]; exact hl
  refine W.eq (g2 := F0 m 19 ls [.ref (g10.2.2 S1.1), .ref (g10.2.2 a)]) (by simp only [q11]) ?_
  have hE := hE.trans eg (Nat.le_refl _)
  have hk12 := fn_kq eS hk5
  have hk13 := fn_kq eS hk6
  have hk14 := hnew
  refine fn_putfr C hR hin hk12 Fq_RX1_19 rfl rfl rfl dX1_init_19 (fun H locs hR => ?_)
  obtain ⟨h15, eh15⟩ : ∃ z, z = fh_sR h9 a 1 (some S1.1) := ⟨_, rfl⟩
  rw [← eh15] at hR
  have hsp := fr_let eh15 hsp
  have hok : fh_ok S8 h15 := by rw [eh15]; exact fh_ok_sR hok (fh_kq_lt hk14)
  refine lv_iconst (v := 0) hx hb_ dX1_init_22 (by decide) ?_
  refine lv_istore_n (lv' := [(1, .int (0 : Int32)), (0, .ref (g10.2.2 a))]) hx hb_ dX1_init_23 rfl hl (by decide) rfl (fun ls hl => ?_)
  exact hb 17 S8 g10 h15 (0 : Int32) _ _ _ _ _ hsp C hR hok hE (by omega) (by omega) (lv_sub hl [1, 0] rfl)

/-! TermRows.<init>()V -/
def z_X11_init_b123 : Nat → Nat → fh_S → fh_H → Int32 → Option (fh_S × fh_H)
  | 0, _, _, _, _ => none
  | n + 1, a, Sx, hx1, y1 =>
    fh_ck (fh_kq Sx a 11) (if (10 : Int32) ≤ y1 then (some (Sx, hx1)) else (fh_b1 (hx1.2.2 a 0) (fun j103 => fh_ck (fh_kq Sx j103 16) (if (Int32.ofNat (Sx.2.2 j103)) ≤ y1 then (some (Sx, hx1)) else (fh_let (fh_push Sx 6 0) (fun S107 => fh_let (fh_z hx1 Sx.1) (fun h108 => fh_b2 (z_X6_init S107 h108 Sx.1 y1) (fun S115 h116 => fh_ck (fh_kq S115 a 11) (fh_ck (fh_kq S115 j103 16) (fh_ck (fh_in y1 (S115.2.2 j103)) (fh_ck (fh_kq S115 Sx.1 6) (fh_let (fh_sR h116 j103 (Int32.toNatClampNeg y1) (some Sx.1)) (fun h126 => fh_let (y1 + 1) (fun v127 => z_X11_init_b123 n a S115 h126 v127))))))))))))))
def z_X11_init (S : fh_S) (h : fh_H) (a : Nat) : Option (fh_S × fh_H) :=
    fh_let (fh_push S 16 10) (fun S1 => fh_let (fh_z h S.1) (fun h2 => fh_let (fh_sR h2 a 0 (some S.1)) (fun h7 => fh_let (fh_push S1 6 0) (fun S8 => fh_let (fh_z h7 S1.1) (fun h9 => fh_b2 (z_X6_init S8 h9 S1.1 (-1 : Int32)) (fun S15 h16 => fh_ck (fh_kq S15 a 11) (fh_ck (fh_kq S15 S1.1 6) (fh_let (fh_sR h16 a 1 (some S1.1)) (fun h23 => fh_let (fh_push S15 1 0) (fun S24 => fh_let (fh_z h23 S15.1) (fun h25 => fh_b2 (z_X1_init S24 h25 S15.1) (fun S31 h32 => fh_ck (fh_kq S31 a 11) (fh_ck (fh_kq S31 S15.1 1) (fh_let (fh_sR h32 a 2 (some S15.1)) (fun h39 => fh_let (fh_push S31 5 0) (fun S40 => fh_let (fh_z h39 S31.1) (fun h41 => fh_b2 (z_X5_init S40 h41 S31.1) (fun S47 h48 => fh_ck (fh_kq S47 a 11) (fh_ck (fh_kq S47 S31.1 5) (fh_let (fh_sR h48 a 3 (some S31.1)) (fun h55 => fh_let (fh_push S47 9 0) (fun S56 => fh_let (fh_z h55 S47.1) (fun h57 => fh_b2 (z_X9_init S56 h57 S47.1) (fun S63 h64 => fh_ck (fh_kq S63 a 11) (fh_ck (fh_kq S63 S47.1 9) (fh_let (fh_sR h64 a 4 (some S47.1)) (fun h71 => fh_let (fh_push S63 2 0) (fun S72 => fh_let (fh_z h71 S63.1) (fun h73 => fh_b2 (z_X2_init S72 h73 S63.1) (fun S79 h80 => fh_ck (fh_kq S79 a 11) (fh_ck (fh_kq S79 S63.1 2) (fh_let (fh_sR h80 a 5 (some S63.1)) (fun h87 => fh_let (fh_push S79 10 0) (fun S88 => fh_let (fh_z h87 S79.1) (fun h89 => fh_b2 (z_X10_init S88 h89 S79.1) (fun S95 h96 => fh_ck (fh_kq S95 a 11) (fh_ck (fh_kq S95 S79.1 10) (fh_let (fh_sR h96 a 6 (some S79.1)) (fun h103 => fh_let (fh_push S95 7 0) (fun S104 => fh_let (fh_z h103 S95.1) (fun h105 => fh_b1 (h105.2.2 a 6) (fun j111 => fh_ck (fh_kq S104 j111 10) (fh_b2 (z_X7_init S104 h105 S95.1 j111) (fun S114 h115 => fh_ck (fh_kq S114 a 11) (fh_ck (fh_kq S114 S95.1 7) (fh_let (fh_sR h115 a 7 (some S95.1)) (fun h122 => fh_let (fh_push S114 4 0) (fun S123 => fh_let (fh_z h122 S114.1) (fun h124 => fh_b1 (h124.2.2 a 6) (fun j130 => fh_ck (fh_kq S123 j130 10) (fh_b2 (z_X4_init S123 h124 S114.1 j130) (fun S133 h134 => fh_ck (fh_kq S133 a 11) (fh_ck (fh_kq S133 S114.1 4) (fh_let (fh_sR h134 a 8 (some S114.1)) (fun h141 => fh_let (fh_push S133 8 0) (fun S142 => fh_let (fh_z h141 S133.1) (fun h143 => fh_b2 (z_X8_init S142 h143 S133.1) (fun S149 h150 => fh_ck (fh_kq S149 a 11) (fh_ck (fh_kq S149 S133.1 8) (fh_let (fh_sR h150 a 9 (some S133.1)) (fun h157 => z_X11_init_b123 11 a S149 h157 (0 : Int32))))))))))))))))))))))))))))))))))))))))))))))))))))))))))))))
set_option maxHeartbeats 4000000 in
set_option maxRecDepth 100000 in
theorem k_X11_init {l : Launch} {S S' : fh_S} {g : fh_G} {h h' : fh_H} (hj : fh_inj S g) (hok : fh_ok S h) {a : Nat} (ha : fh_kq S a 11 = true) (hsp : z_X11_init S h a = some (S', h')) : fc_M l yX11_init cX11_init 2 3 125 6024 S g [.ref (g.2.2 a)] h S' h' := by
  unfold z_X11_init at hsp
  refine fc_head (own := RX11) (by decide) rfl rfl hj (Nat.le_of_ble_eq_true rfl) ?_
  intro p e s m below meth c ls C hN hin hr hlocks hR hl
  have hl : lv_has ls 2 [(0, .ref (g.2.2 a))] := hl
  generalize List.toArray ([.ref (g.2.2 a)] : List Value) = args at C ⊢
  have hx := C.1.1
  have hb_ := C.1.2.1
  have hE : fn_rel S g S g s.heap.size := fn_rel.rf
  have hb : ∀ (n : Nat) (Sx : fh_S) (gx : fh_G) (hx1 : fh_H) (y1 : Int32) (H : Heap) (locs : List Loc) (ls : Array Slot) (cells slots : Nat), z_X11_init_b123 n a Sx hx1 y1 = some (S', h') → fh_C p m c cX11_init 2 s args RX11 Sx gx → fh_R Sx gx s.heap hx1 H locs → fh_ok Sx hx1 → fn_rel S g Sx gx s.heap.size → cells + 6 * n ≤ 125 → slots + 258 * n ≤ 6024 → lv_has ls 2 [(0, .ref (gx.2.2 a)), (1, .int y1)] → W p l e (fc_rm 3 125 6024) s m args below meth c H locs cells slots (MQ below (fc_Q S g s.heap.size S' h') args s 125 6024 (fh_A S g s.heap.size)) (F0 m 123 ls []) := by
    intro n
    induction n with
    | zero => intro Sx gx hx1 y1 H locs ls cells slots hsp; cases hsp
    | succ n ih =>
      intro Sx gx hx1 y1 H locs ls cells slots hsp C hR hok hE hcs hss hl
      rw [z_X11_init_b123] at hsp
      obtain ⟨hk101, hsp⟩ := fr_ck hsp
      refine lv_iload_n hx hb_ dX11_init_123 rfl (lv_at hl 1 rfl) ?_
      refine lv_bipush (v := 10) hx hb_ dX11_init_124 (by decide) ?_
      refine lv_icmp_ge (tgt := 158) hx hb_ dX11_init_126 (by decide) (fun c102 => ?_) (fun c102 => ?_)
      · rw [if_pos c102] at hsp
        exact fn_ret C hr hlocks hR hok hE hsp (by omega) (by omega) dX11_init_158
      · rw [if_neg c102] at hsp
        refine lv_iload_n hx hb_ dX11_init_129 rfl (lv_at hl 1 rfl) ?_
        refine lv_aload_n hx hb_ dX11_init_130 rfl (lv_at hl 0 rfl) ?_
        obtain ⟨j103, hv104, hsp⟩ := fr_b1 hsp
        refine fr_getr C hR hk101 Fg_RX11_11 rfl hv104 dX11_init_131 ?_
        obtain ⟨hk105, hsp⟩ := fr_ck hsp
        refine fr_alen C hR hk105 (Or.inr (Or.inr (Or.inr rfl))) dX11_init_134 ?_
        refine lv_icmp_ge (tgt := 158) hx hb_ dX11_init_135 (by decide) (fun c106 => ?_) (fun c106 => ?_)
        · rw [if_pos c106] at hsp
          exact fn_ret C hr hlocks hR hok hE hsp (by omega) (by omega) dX11_init_158
        · rw [if_neg c106] at hsp
          refine lv_aload_n hx hb_ dX11_init_138 rfl (lv_at hl 0 rfl) ?_
          refine fr_getr C hR hk101 Fg_RX11_11 rfl hv104 dX11_init_139 ?_
          refine lv_iload_n hx hb_ dX11_init_142 rfl (lv_at hl 1 rfl) ?_
          refine fn_new (N := 9) C hR hok Kn_RX11_9 rfl (by show _ ≤ 125; omega) (by show _ ≤ 6024; omega) dX11_init_143 (fun S107 h108 g109 H eS eh eg C hR hok hnew => ?_)
          have hsp := fr_let eS hsp
          have hsp := fr_let eh hsp
          have q110 := eg.2.2.2.1 (a) (fh_kq_lt hk101)
          have q111 := eg.2.2.2.1 (j103) (fh_kq_lt hk105)
          have hl : lv_has ls 2 [(0, .ref (g109.2.2 a)), (1, .int y1)] := by simp only [q110, q111]; exact hl
          refine W.eq (g2 := F0 m 146 ls [.ref (g109.2.2 Sx.1), .int y1, .ref (g109.2.2 j103)]) (by simp only [q110, q111]) ?_
          have hE := hE.trans eg (Nat.le_refl _)
          have hk112 := fn_kq eS hk101
          have hk113 := fn_kq eS hk105
          have hk114 := hnew
          refine lv_dup hx hb_ dX11_init_146 rfl ?_
          refine lv_iload_n hx hb_ dX11_init_147 rfl (lv_at hl 1 rfl) ?_
          obtain ⟨S115, h116, E117, hsp⟩ := fr_b2 hsp
          refine fn_cI (rest := [.ref (g109.2.2 Sx.1), .int y1, .ref (g109.2.2 j103)]) C hN hR (k_X6_init C.2.2 hok hk114 E117) Y_X6_init rfl YI_X6_init Lk_RX11_15 rfl hl.1 ⟨Nat.le_of_ble_eq_true rfl, Nat.le_of_ble_eq_true rfl⟩ rfl (Nat.le_of_ble_eq_true rfl) ⟨(by show _ ≤ 125; omega), (by show _ ≤ 6024; omega)⟩ dX11_init_148 (fun g118 H locs eg C hR hok => ?_)
          have q119 := eg.2.2.2.1 (a) (fh_kq_lt hk112)
          have q120 := eg.2.2.2.1 (Sx.1) (fh_kq_lt hk114)
          have q121 := eg.2.2.2.1 (j103) (fh_kq_lt hk113)
          have hl : lv_has ls 2 [(0, .ref (g118.2.2 a)), (1, .int y1)] := by simp only [q119, q120, q121]; exact hl
          refine W.eq (g2 := F0 m 151 ls [.ref (g118.2.2 Sx.1), .int y1, .ref (g118.2.2 j103)]) (by simp only [q119, q120, q121]) ?_
          have hE := hE.trans eg (Nat.le_refl _)
          obtain ⟨hk122, hsp⟩ := fr_ck hsp
          obtain ⟨hk123, hsp⟩ := fr_ck hsp
          obtain ⟨hi124, hsp⟩ := fr_ck hsp
          obtain ⟨hk125, hsp⟩ := fr_ck hsp
          refine fr_aast C hR hk123 hk125 (Or.inr ⟨rfl, rfl⟩) hi124 dX11_init_151 (fun H locs hR => ?_)
          obtain ⟨h126, eh126⟩ : ∃ z, z = fh_sR h116 j103 (Int32.toNatClampNeg y1) (some Sx.1) := ⟨_, rfl⟩
          rw [← eh126] at hR
          have hsp := fr_let eh126 hsp
          have hok : fh_ok S115 h126 := by rw [eh126]; exact fh_ok_sR hok (fh_kq_lt hk125)
          obtain ⟨v127, ev127⟩ : ∃ z, z = y1 + 1 := ⟨_, rfl⟩
          have hsp := fr_let ev127 hsp
          refine lv_iinc (v := v127) (lv' := [(1, .int v127), (0, .ref (g118.2.2 a))]) hx hb_ dX11_init_152 hl (k := 1) rfl (by rw [ev127]; rfl) (by decide) rfl (fun ls hl => ?_)
          refine lv_goto (tgt := 123) hx hb_ dX11_init_155 (by decide) ?_
          exact ih S115 g118 h126 v127 _ _ _ _ _ hsp C hR hok hE (by omega) (by omega) (lv_sub hl [1, 0] rfl)
  refine lv_aload_n hx hb_ dX11_init_0 rfl (lv_at hl 0 rfl) ?_
  refine W.objInit hx hb_ C.1.2.2.2.1 (C.1.2.2.2.2 _ Ob_RX11) (C.1.2.2.2.2 _ Ob_i) (C.1.2.2.2.2 _ Ob_c) rfl (by rw [C.1.2.2.1]; exact hl.1) rfl dX11_init_1 (Nat.le_of_ble_eq_true rfl) (Nat.le_of_ble_eq_true rfl) ?_
  refine W.eq (g2 := F0 m 4 ls []) rfl ?_
  refine lv_aload_n hx hb_ dX11_init_4 rfl (lv_at hl 0 rfl) ?_
  refine lv_bipush (v := 10) hx hb_ dX11_init_5 (by decide) ?_
  refine fn_newr (n := 10) (N := 10) C hR hok Kl_RX11_9 hN.2.2.2.2.2.2.2.2.1 (by decide) rfl (by decide) (by show _ ≤ 125; omega) (by show _ ≤ 6024; omega) dX11_init_7 (fun S1 h2 g3 H eS eh eg C hR hok hnew => ?_)
  have hsp := fr_let eS hsp
  have hsp := fr_let eh hsp
  have q4 := eg.2.2.2.1 (a) (fh_kq_lt ha)
  have hl : lv_has ls 2 [(0, .ref (g3.2.2 a))] := by rw [q4]; exact hl
  refine W.eq (g2 := F0 m 10 ls [.ref (g3.2.2 S.1), .ref (g3.2.2 a)]) (by simp only [q4]) ?_
  have hE := hE.trans eg (Nat.le_refl _)
  have hk5 := fn_kq eS ha
  have hk6 := hnew
  refine fn_putfr C hR hin hk5 Fq_RX11_11 rfl rfl rfl dX11_init_10 (fun H locs hR => ?_)
  obtain ⟨h7, eh7⟩ : ∃ z, z = fh_sR h2 a 0 (some S.1) := ⟨_, rfl⟩
  rw [← eh7] at hR
  have hsp := fr_let eh7 hsp
  have hok : fh_ok S1 h7 := by rw [eh7]; exact fh_ok_sR hok (fh_kq_lt hk6)
  refine lv_aload_n hx hb_ dX11_init_13 rfl (lv_at hl 0 rfl) ?_
  refine fn_new (N := 9) C hR hok Kn_RX11_9 rfl (by show _ ≤ 125; omega) (by show _ ≤ 6024; omega) dX11_init_14 (fun S8 h9 g10 H eS eh eg C hR hok hnew => ?_)
  have hsp := fr_let eS hsp
  have hsp := fr_let eh hsp
  have q11 := eg.2.2.2.1 (a) (fh_kq_lt hk5)
  have hl : lv_has ls 2 [(0, .ref (g10.2.2 a))] := by rw [q11]; exact hl
  refine W.eq (g2 := F0 m 17 ls [.ref (g10.2.2 S1.1), .ref (g10.2.2 a)]) (by simp only [q11]) ?_
  have hE := hE.trans eg (Nat.le_refl _)
  have hk12 := fn_kq eS hk5
  have hk13 := fn_kq eS hk6
  have hk14 := hnew
  refine lv_dup hx hb_ dX11_init_17 rfl ?_
  refine lv_iconst (v := -1) hx hb_ dX11_init_18 (by decide) ?_
  obtain ⟨S15, h16, E17, hsp⟩ := fr_b2 hsp
  refine fn_cI (rest := [.ref (g10.2.2 S1.1), .ref (g10.2.2 a)]) C hN hR (k_X6_init C.2.2 hok hk14 E17) Y_X6_init rfl YI_X6_init Lk_RX11_15 rfl hl.1 ⟨Nat.le_of_ble_eq_true rfl, Nat.le_of_ble_eq_true rfl⟩ rfl (Nat.le_of_ble_eq_true rfl) ⟨(by show _ ≤ 125; omega), (by show _ ≤ 6024; omega)⟩ dX11_init_19 (fun g18 H locs eg C hR hok => ?_)
  have q19 := eg.2.2.2.1 (a) (fh_kq_lt hk12)
  have q20 := eg.2.2.2.1 (S1.1) (fh_kq_lt hk14)
  have hl : lv_has ls 2 [(0, .ref (g18.2.2 a))] := by simp only [q19, q20]; exact hl
  refine W.eq (g2 := F0 m 22 ls [.ref (g18.2.2 S1.1), .ref (g18.2.2 a)]) (by simp only [q19, q20]) ?_
  have hE := hE.trans eg (Nat.le_refl _)
  obtain ⟨hk21, hsp⟩ := fr_ck hsp
  obtain ⟨hk22, hsp⟩ := fr_ck hsp
  refine fn_putfr C hR hin hk21 Fq_RX11_18 rfl rfl rfl dX11_init_22 (fun H locs hR => ?_)
  obtain ⟨h23, eh23⟩ : ∃ z, z = fh_sR h16 a 1 (some S1.1) := ⟨_, rfl⟩
  rw [← eh23] at hR
  have hsp := fr_let eh23 hsp
  have hok : fh_ok S15 h23 := by rw [eh23]; exact fh_ok_sR hok (fh_kq_lt hk22)
  refine lv_aload_n hx hb_ dX11_init_25 rfl (lv_at hl 0 rfl) ?_
  refine fn_new (N := 4) C hR hok Kn_RX11_22 rfl (by show _ ≤ 125; omega) (by show _ ≤ 6024; omega) dX11_init_26 (fun S24 h25 g26 H eS eh eg C hR hok hnew => ?_)
  have hsp := fr_let eS hsp
  have hsp := fr_let eh hsp
  have q27 := eg.2.2.2.1 (a) (fh_kq_lt hk21)
  have hl : lv_has ls 2 [(0, .ref (g26.2.2 a))] := by rw [q27]; exact hl
  refine W.eq (g2 := F0 m 29 ls [.ref (g26.2.2 S15.1), .ref (g26.2.2 a)]) (by simp only [q27]) ?_
  have hE := hE.trans eg (Nat.le_refl _)
  have hk28 := fn_kq eS hk21
  have hk29 := fn_kq eS hk22
  have hk30 := hnew
  refine lv_dup hx hb_ dX11_init_29 rfl ?_
  obtain ⟨S31, h32, E33, hsp⟩ := fr_b2 hsp
  refine fn_cI (rest := [.ref (g26.2.2 S15.1), .ref (g26.2.2 a)]) C hN hR (k_X1_init C.2.2 hok hk30 E33) Y_X1_init rfl YI_X1_init Lk_RX11_24 rfl hl.1 ⟨Nat.le_of_ble_eq_true rfl, Nat.le_of_ble_eq_true rfl⟩ rfl (Nat.le_of_ble_eq_true rfl) ⟨(by show _ ≤ 125; omega), (by show _ ≤ 6024; omega)⟩ dX11_init_30 (fun g34 H locs eg C hR hok => ?_)
  have q35 := eg.2.2.2.1 (a) (fh_kq_lt hk28)
  have q36 := eg.2.2.2.1 (S15.1) (fh_kq_lt hk30)
  have hl : lv_has ls 2 [(0, .ref (g34.2.2 a))] := by simp only [q35, q36]; exact hl
  refine W.eq (g2 := F0 m 33 ls [.ref (g34.2.2 S15.1), .ref (g34.2.2 a)]) (by simp only [q35, q36]) ?_
  have hE := hE.trans eg (Nat.le_refl _)
  obtain ⟨hk37, hsp⟩ := fr_ck hsp
  obtain ⟨hk38, hsp⟩ := fr_ck hsp
  refine fn_putfr C hR hin hk37 Fq_RX11_25 rfl rfl rfl dX11_init_33 (fun H locs hR => ?_)
  obtain ⟨h39, eh39⟩ : ∃ z, z = fh_sR h32 a 2 (some S15.1) := ⟨_, rfl⟩
  rw [← eh39] at hR
  have hsp := fr_let eh39 hsp
  have hok : fh_ok S31 h39 := by rw [eh39]; exact fh_ok_sR hok (fh_kq_lt hk38)
  refine lv_aload_n hx hb_ dX11_init_36 rfl (lv_at hl 0 rfl) ?_
  refine fn_new (N := 11) C hR hok Kn_RX11_29 rfl (by show _ ≤ 125; omega) (by show _ ≤ 6024; omega) dX11_init_37 (fun S40 h41 g42 H eS eh eg C hR hok hnew => ?_)
  have hsp := fr_let eS hsp
  have hsp := fr_let eh hsp
  have q43 := eg.2.2.2.1 (a) (fh_kq_lt hk37)
  have hl : lv_has ls 2 [(0, .ref (g42.2.2 a))] := by rw [q43]; exact hl
  refine W.eq (g2 := F0 m 40 ls [.ref (g42.2.2 S31.1), .ref (g42.2.2 a)]) (by simp only [q43]) ?_
  have hE := hE.trans eg (Nat.le_refl _)
  have hk44 := fn_kq eS hk37
  have hk45 := fn_kq eS hk38
  have hk46 := hnew
  refine lv_dup hx hb_ dX11_init_40 rfl ?_
  obtain ⟨S47, h48, E49, hsp⟩ := fr_b2 hsp
  refine fn_cN (rest := [.ref (g42.2.2 S31.1), .ref (g42.2.2 a)]) C hN hR (k_X5_init C.2.2 hok hk46 E49) Y_X5_init rfl YI_X5_init hN.1 rfl hl.1 ⟨Nat.le_of_ble_eq_true rfl, Nat.le_of_ble_eq_true rfl⟩ rfl (Nat.le_of_ble_eq_true rfl) ⟨(by show _ ≤ 125; omega), (by show _ ≤ 6024; omega)⟩ dX11_init_41 (fun g50 H locs eg C hR hok => ?_)
  have q51 := eg.2.2.2.1 (a) (fh_kq_lt hk44)
  have q52 := eg.2.2.2.1 (S31.1) (fh_kq_lt hk46)
  have hl : lv_has ls 2 [(0, .ref (g50.2.2 a))] := by simp only [q51, q52]; exact hl
  refine W.eq (g2 := F0 m 44 ls [.ref (g50.2.2 S31.1), .ref (g50.2.2 a)]) (by simp only [q51, q52]) ?_
  have hE := hE.trans eg (Nat.le_refl _)
  obtain ⟨hk53, hsp⟩ := fr_ck hsp
  obtain ⟨hk54, hsp⟩ := fr_ck hsp
  refine fn_putfr C hR hin hk53 Fq_RX11_32 rfl rfl rfl dX11_init_44 (fun H locs hR => ?_)
  obtain ⟨h55, eh55⟩ : ∃ z, z = fh_sR h48 a 3 (some S31.1) := ⟨_, rfl⟩
  rw [← eh55] at hR
  have hsp := fr_let eh55 hsp
  have hok : fh_ok S47 h55 := by rw [eh55]; exact fh_ok_sR hok (fh_kq_lt hk54)
  refine lv_aload_n hx hb_ dX11_init_47 rfl (lv_at hl 0 rfl) ?_
  refine fn_new (N := 4) C hR hok Kn_RX11_36 rfl (by show _ ≤ 125; omega) (by show _ ≤ 6024; omega) dX11_init_48 (fun S56 h57 g58 H eS eh eg C hR hok hnew => ?_)
  have hsp := fr_let eS hsp
  have hsp := fr_let eh hsp
  have q59 := eg.2.2.2.1 (a) (fh_kq_lt hk53)
  have hl : lv_has ls 2 [(0, .ref (g58.2.2 a))] := by rw [q59]; exact hl
  refine W.eq (g2 := F0 m 51 ls [.ref (g58.2.2 S47.1), .ref (g58.2.2 a)]) (by simp only [q59]) ?_
  have hE := hE.trans eg (Nat.le_refl _)
  have hk60 := fn_kq eS hk53
  have hk61 := fn_kq eS hk54
  have hk62 := hnew
  refine lv_dup hx hb_ dX11_init_51 rfl ?_
  obtain ⟨S63, h64, E65, hsp⟩ := fr_b2 hsp
  refine fn_cN (rest := [.ref (g58.2.2 S47.1), .ref (g58.2.2 a)]) C hN hR (k_X9_init C.2.2 hok hk62 E65) Y_X9_init rfl YI_X9_init hN.2.1 rfl hl.1 ⟨Nat.le_of_ble_eq_true rfl, Nat.le_of_ble_eq_true rfl⟩ rfl (Nat.le_of_ble_eq_true rfl) ⟨(by show _ ≤ 125; omega), (by show _ ≤ 6024; omega)⟩ dX11_init_52 (fun g66 H locs eg C hR hok => ?_)
  have q67 := eg.2.2.2.1 (a) (fh_kq_lt hk60)
  have q68 := eg.2.2.2.1 (S47.1) (fh_kq_lt hk62)
  have hl : lv_has ls 2 [(0, .ref (g66.2.2 a))] := by simp only [q67, q68]; exact hl
  refine W.eq (g2 := F0 m 55 ls [.ref (g66.2.2 S47.1), .ref (g66.2.2 a)]) (by simp only [q67, q68]) ?_
  have hE := hE.trans eg (Nat.le_refl _)
  obtain ⟨hk69, hsp⟩ := fr_ck hsp
  obtain ⟨hk70, hsp⟩ := fr_ck hsp
  refine fn_putfr C hR hin hk69 Fq_RX11_39 rfl rfl rfl dX11_init_55 (fun H locs hR => ?_)
  obtain ⟨h71, eh71⟩ : ∃ z, z = fh_sR h64 a 4 (some S47.1) := ⟨_, rfl⟩
  rw [← eh71] at hR
  have hsp := fr_let eh71 hsp
  have hok : fh_ok S63 h71 := by rw [eh71]; exact fh_ok_sR hok (fh_kq_lt hk70)
  refine lv_aload_n hx hb_ dX11_init_58 rfl (lv_at hl 0 rfl) ?_
  refine fn_new (N := 5) C hR hok Kn_RX11_43 rfl (by show _ ≤ 125; omega) (by show _ ≤ 6024; omega) dX11_init_59 (fun S72 h73 g74 H eS eh eg C hR hok hnew => ?_)
  have hsp := fr_let eS hsp
  have hsp := fr_let eh hsp
  have q75 := eg.2.2.2.1 (a) (fh_kq_lt hk69)
  have hl : lv_has ls 2 [(0, .ref (g74.2.2 a))] := by rw [q75]; exact hl
  refine W.eq (g2 := F0 m 62 ls [.ref (g74.2.2 S63.1), .ref (g74.2.2 a)]) (by simp only [q75]) ?_
  have hE := hE.trans eg (Nat.le_refl _)
  have hk76 := fn_kq eS hk69
  have hk77 := fn_kq eS hk70
  have hk78 := hnew
  refine lv_dup hx hb_ dX11_init_62 rfl ?_
  obtain ⟨S79, h80, E81, hsp⟩ := fr_b2 hsp
  refine fn_cN (rest := [.ref (g74.2.2 S63.1), .ref (g74.2.2 a)]) C hN hR (k_X2_init C.2.2 hok hk78 E81) Y_X2_init rfl YI_X2_init hN.2.2.1 rfl hl.1 ⟨Nat.le_of_ble_eq_true rfl, Nat.le_of_ble_eq_true rfl⟩ rfl (Nat.le_of_ble_eq_true rfl) ⟨(by show _ ≤ 125; omega), (by show _ ≤ 6024; omega)⟩ dX11_init_63 (fun g82 H locs eg C hR hok => ?_)
  have q83 := eg.2.2.2.1 (a) (fh_kq_lt hk76)
  have q84 := eg.2.2.2.1 (S63.1) (fh_kq_lt hk78)
  have hl : lv_has ls 2 [(0, .ref (g82.2.2 a))] := by simp only [q83, q84]; exact hl
  refine W.eq (g2 := F0 m 66 ls [.ref (g82.2.2 S63.1), .ref (g82.2.2 a)]) (by simp only [q83, q84]) ?_
  have hE := hE.trans eg (Nat.le_refl _)
  obtain ⟨hk85, hsp⟩ := fr_ck hsp
  obtain ⟨hk86, hsp⟩ := fr_ck hsp
  refine fn_putfr C hR hin hk85 Fq_RX11_46 rfl rfl rfl dX11_init_66 (fun H locs hR => ?_)
  obtain ⟨h87, eh87⟩ : ∃ z, z = fh_sR h80 a 5 (some S63.1) := ⟨_, rfl⟩
  rw [← eh87] at hR
  have hsp := fr_let eh87 hsp
  have hok : fh_ok S79 h87 := by rw [eh87]; exact fh_ok_sR hok (fh_kq_lt hk86)
  refine lv_aload_n hx hb_ dX11_init_69 rfl (lv_at hl 0 rfl) ?_
  refine fn_new (N := 9) C hR hok Kn_RX11_50 rfl (by show _ ≤ 125; omega) (by show _ ≤ 6024; omega) dX11_init_70 (fun S88 h89 g90 H eS eh eg C hR hok hnew => ?_)
  have hsp := fr_let eS hsp
  have hsp := fr_let eh hsp
  have q91 := eg.2.2.2.1 (a) (fh_kq_lt hk85)
  have hl : lv_has ls 2 [(0, .ref (g90.2.2 a))] := by rw [q91]; exact hl
  refine W.eq (g2 := F0 m 73 ls [.ref (g90.2.2 S79.1), .ref (g90.2.2 a)]) (by simp only [q91]) ?_
  have hE := hE.trans eg (Nat.le_refl _)
  have hk92 := fn_kq eS hk85
  have hk93 := fn_kq eS hk86
  have hk94 := hnew
  refine lv_dup hx hb_ dX11_init_73 rfl ?_
  obtain ⟨S95, h96, E97, hsp⟩ := fr_b2 hsp
  refine fn_cN (rest := [.ref (g90.2.2 S79.1), .ref (g90.2.2 a)]) C hN hR (k_X10_init C.2.2 hok hk94 E97) Y_X10_init rfl YI_X10_init hN.2.2.2.1 rfl hl.1 ⟨Nat.le_of_ble_eq_true rfl, Nat.le_of_ble_eq_true rfl⟩ rfl (Nat.le_of_ble_eq_true rfl) ⟨(by show _ ≤ 125; omega), (by show _ ≤ 6024; omega)⟩ dX11_init_74 (fun g98 H locs eg C hR hok => ?_)
  have q99 := eg.2.2.2.1 (a) (fh_kq_lt hk92)
  have q100 := eg.2.2.2.1 (S79.1) (fh_kq_lt hk94)
  have hl : lv_has ls 2 [(0, .ref (g98.2.2 a))] := by simp only [q99, q100]; exact hl
  refine W.eq (g2 := F0 m 77 ls [.ref (g98.2.2 S79.1), .ref (g98.2.2 a)]) (by simp only [q99, q100]) ?_
  have hE := hE.trans eg (Nat.le_refl _)
  obtain ⟨hk101, hsp⟩ := fr_ck hsp
  obtain ⟨hk102, hsp⟩ := fr_ck hsp
  refine fn_putfr C hR hin hk101 Fq_RX11_53 rfl rfl rfl dX11_init_77 (fun H locs hR => ?_)
  obtain ⟨h103, eh103⟩ : ∃ z, z = fh_sR h96 a 6 (some S79.1) := ⟨_, rfl⟩
  rw [← eh103] at hR
  have hsp := fr_let eh103 hsp
  have hok : fh_ok S95 h103 := by rw [eh103]; exact fh_ok_sR hok (fh_kq_lt hk102)
  refine lv_aload_n hx hb_ dX11_init_80 rfl (lv_at hl 0 rfl) ?_
  refine fn_new (N := 4) C hR hok Kn_RX11_57 rfl (by show _ ≤ 125; omega) (by show _ ≤ 6024; omega) dX11_init_81 (fun S104 h105 g106 H eS eh eg C hR hok hnew => ?_)
  have hsp := fr_let eS hsp
  have hsp := fr_let eh hsp
  have q107 := eg.2.2.2.1 (a) (fh_kq_lt hk101)
  have hl : lv_has ls 2 [(0, .ref (g106.2.2 a))] := by rw [q107]; exact hl
  refine W.eq (g2 := F0 m 84 ls [.ref (g106.2.2 S95.1), .ref (g106.2.2 a)]) (by simp only [q107]) ?_
  have hE := hE.trans eg (Nat.le_refl _)
  have hk108 := fn_kq eS hk101
  have hk109 := fn_kq eS hk102
  have hk110 := hnew
  refine lv_dup hx hb_ dX11_init_84 rfl ?_
  refine lv_aload_n hx hb_ dX11_init_85 rfl (lv_at hl 0 rfl) ?_
  obtain ⟨j111, hv112, hsp⟩ := fr_b1 hsp
  refine fr_getr C hR hk108 Fg_RX11_53 rfl hv112 dX11_init_86 ?_
  obtain ⟨hk113, hsp⟩ := fr_ck hsp
  obtain ⟨S114, h115, E116, hsp⟩ := fr_b2 hsp
  refine fn_cI (rest := [.ref (g106.2.2 S95.1), .ref (g106.2.2 a)]) C hN hR (k_X7_init C.2.2 hok hk110 hk113 E116) Y_X7_init rfl YI_X7_init Lk_RX11_59 rfl hl.1 ⟨Nat.le_of_ble_eq_true rfl, Nat.le_of_ble_eq_true rfl⟩ rfl (Nat.le_of_ble_eq_true rfl) ⟨(by show _ ≤ 125; omega), (by show _ ≤ 6024; omega)⟩ dX11_init_89 (fun g117 H locs eg C hR hok => ?_)
  have q118 := eg.2.2.2.1 (a) (fh_kq_lt hk108)
  have q119 := eg.2.2.2.1 (S95.1) (fh_kq_lt hk110)
  have hl : lv_has ls 2 [(0, .ref (g117.2.2 a))] := by simp only [q118, q119]; exact hl
  refine W.eq (g2 := F0 m 92 ls [.ref (g117.2.2 S95.1), .ref (g117.2.2 a)]) (by simp only [q118, q119]) ?_
  have hE := hE.trans eg (Nat.le_refl _)
  obtain ⟨hk120, hsp⟩ := fr_ck hsp
  obtain ⟨hk121, hsp⟩ := fr_ck hsp
  refine fn_putfr C hR hin hk120 Fq_RX11_62 rfl rfl rfl dX11_init_92 (fun H locs hR => ?_)
  obtain ⟨h122, eh122⟩ : ∃ z, z = fh_sR h115 a 7 (some S95.1) := ⟨_, rfl⟩
  rw [← eh122] at hR
  have hsp := fr_let eh122 hsp
  have hok : fh_ok S114 h122 := by rw [eh122]; exact fh_ok_sR hok (fh_kq_lt hk121)
  refine lv_aload_n hx hb_ dX11_init_95 rfl (lv_at hl 0 rfl) ?_
  refine fn_new (N := 3) C hR hok Kn_RX11_66 rfl (by show _ ≤ 125; omega) (by show _ ≤ 6024; omega) dX11_init_96 (fun S123 h124 g125 H eS eh eg C hR hok hnew => ?_)
  have hsp := fr_let eS hsp
  have hsp := fr_let eh hsp
  have q126 := eg.2.2.2.1 (a) (fh_kq_lt hk120)
  have hl : lv_has ls 2 [(0, .ref (g125.2.2 a))] := by rw [q126]; exact hl
  refine W.eq (g2 := F0 m 99 ls [.ref (g125.2.2 S114.1), .ref (g125.2.2 a)]) (by simp only [q126]) ?_
  have hE := hE.trans eg (Nat.le_refl _)
  have hk127 := fn_kq eS hk120
  have hk128 := fn_kq eS hk121
  have hk129 := hnew
  refine lv_dup hx hb_ dX11_init_99 rfl ?_
  refine lv_aload_n hx hb_ dX11_init_100 rfl (lv_at hl 0 rfl) ?_
  obtain ⟨j130, hv131, hsp⟩ := fr_b1 hsp
  refine fr_getr C hR hk127 Fg_RX11_53 rfl hv131 dX11_init_101 ?_
  obtain ⟨hk132, hsp⟩ := fr_ck hsp
  obtain ⟨S133, h134, E135, hsp⟩ := fr_b2 hsp
  refine fn_cI (rest := [.ref (g125.2.2 S114.1), .ref (g125.2.2 a)]) C hN hR (k_X4_init C.2.2 hok hk129 hk132 E135) Y_X4_init rfl YI_X4_init Lk_RX11_68 rfl hl.1 ⟨Nat.le_of_ble_eq_true rfl, Nat.le_of_ble_eq_true rfl⟩ rfl (Nat.le_of_ble_eq_true rfl) ⟨(by show _ ≤ 125; omega), (by show _ ≤ 6024; omega)⟩ dX11_init_104 (fun g136 H locs eg C hR hok => ?_)
  have q137 := eg.2.2.2.1 (a) (fh_kq_lt hk127)
  have q138 := eg.2.2.2.1 (S114.1) (fh_kq_lt hk129)
  have hl : lv_has ls 2 [(0, .ref (g136.2.2 a))] := by simp only [q137, q138]; exact hl
  refine W.eq (g2 := F0 m 107 ls [.ref (g136.2.2 S114.1), .ref (g136.2.2 a)]) (by simp only [q137, q138]) ?_
  have hE := hE.trans eg (Nat.le_refl _)
  obtain ⟨hk139, hsp⟩ := fr_ck hsp
  obtain ⟨hk140, hsp⟩ := fr_ck hsp
  refine fn_putfr C hR hin hk139 Fq_RX11_69 rfl rfl rfl dX11_init_107 (fun H locs hR => ?_)
  obtain ⟨h141, eh141⟩ : ∃ z, z = fh_sR h134 a 8 (some S114.1) := ⟨_, rfl⟩
  rw [← eh141] at hR
  have hsp := fr_let eh141 hsp
  have hok : fh_ok S133 h141 := by rw [eh141]; exact fh_ok_sR hok (fh_kq_lt hk140)
  refine lv_aload_n hx hb_ dX11_init_110 rfl (lv_at hl 0 rfl) ?_
  refine fn_new (N := 2) C hR hok Kn_RX11_73 rfl (by show _ ≤ 125; omega) (by show _ ≤ 6024; omega) dX11_init_111 (fun S142 h143 g144 H eS eh eg C hR hok hnew => ?_)
  have hsp := fr_let eS hsp
  have hsp := fr_let eh hsp
  have q145 := eg.2.2.2.1 (a) (fh_kq_lt hk139)
  have hl : lv_has ls 2 [(0, .ref (g144.2.2 a))] := by rw [q145]; exact hl
  refine W.eq (g2 := F0 m 114 ls [.ref (g144.2.2 S133.1), .ref (g144.2.2 a)]) (by simp only [q145]) ?_
  have hE := hE.trans eg (Nat.le_refl _)
  have hk146 := fn_kq eS hk139
  have hk147 := fn_kq eS hk140
  have hk148 := hnew
  refine lv_dup hx hb_ dX11_init_114 rfl ?_
  obtain ⟨S149, h150, E151, hsp⟩ := fr_b2 hsp
  refine fn_cN (rest := [.ref (g144.2.2 S133.1), .ref (g144.2.2 a)]) C hN hR (k_X8_init C.2.2 hok hk148 E151) Y_X8_init rfl YI_X8_init hN.2.2.2.2.1 rfl hl.1 ⟨Nat.le_of_ble_eq_true rfl, Nat.le_of_ble_eq_true rfl⟩ rfl (Nat.le_of_ble_eq_true rfl) ⟨(by show _ ≤ 125; omega), (by show _ ≤ 6024; omega)⟩ dX11_init_115 (fun g152 H locs eg C hR hok => ?_)
  have q153 := eg.2.2.2.1 (a) (fh_kq_lt hk146)
  have q154 := eg.2.2.2.1 (S133.1) (fh_kq_lt hk148)
  have hl : lv_has ls 2 [(0, .ref (g152.2.2 a))] := by simp only [q153, q154]; exact hl
  refine W.eq (g2 := F0 m 118 ls [.ref (g152.2.2 S133.1), .ref (g152.2.2 a)]) (by simp only [q153, q154]) ?_
  have hE := hE.trans eg (Nat.le_refl _)
  obtain ⟨hk155, hsp⟩ := fr_ck hsp
  obtain ⟨hk156, hsp⟩ := fr_ck hsp
  refine fn_putfr C hR hin hk155 Fq_RX11_76 rfl rfl rfl dX11_init_118 (fun H locs hR => ?_)
  obtain ⟨h157, eh157⟩ : ∃ z, z = fh_sR h150 a 9 (some S133.1) := ⟨_, rfl⟩
  rw [← eh157] at hR
  have hsp := fr_let eh157 hsp
  have hok : fh_ok S149 h157 := by rw [eh157]; exact fh_ok_sR hok (fh_kq_lt hk156)
  refine lv_iconst (v := 0) hx hb_ dX11_init_121 (by decide) ?_
  refine lv_istore_n (lv' := [(1, .int (0 : Int32)), (0, .ref (g152.2.2 a))]) hx hb_ dX11_init_122 rfl hl (by decide) rfl (fun ls hl => ?_)
  exact hb 11 S149 g152 h157 (0 : Int32) _ _ _ _ _ hsp C hR hok hE (by omega) (by omega) (lv_sub hl [1, 0] rfl)

/-! TermRowsModel.<init>()V -/
def z_X12_init_b154 : Nat → Nat → fh_S → fh_H → Int32 → Option (fh_S × fh_H)
  | 0, _, _, _, _ => none
  | n + 1, a, Sx, hx1, y1 =>
    fh_ck (fh_kq Sx a 12) (if (10 : Int32) ≤ y1 then (fh_b1 (z_X12_layAll Sx hx1 a) (fun h103 => some (Sx, h103))) else (fh_b1 (z_X12_put Sx hx1 a y1 (2 : Int32) (1 : Int32)) (fun h105 => fh_let (y1 + 1) (fun v107 => z_X12_init_b154 n a Sx h105 v107))))
def z_X12_init (S : fh_S) (h : fh_H) (a : Nat) : Option (fh_S × fh_H) :=
    fh_let (fh_push S 13 1090) (fun S1 => fh_let (fh_z h S.1) (fun h2 => fh_let (fh_sR h2 a 0 (some S.1)) (fun h7 => fh_let (fh_push S1 13 17440) (fun S8 => fh_let (fh_z h7 S1.1) (fun h9 => fh_let (fh_sR h9 a 1 (some S1.1)) (fun h15 => fh_let (fh_push S8 13 600) (fun S16 => fh_let (fh_z h15 S8.1) (fun h17 => fh_let (fh_sR h17 a 4 (some S8.1)) (fun h24 => fh_let (fh_push S16 13 10) (fun S25 => fh_let (fh_z h24 S16.1) (fun h26 => fh_let (fh_sR h26 a 5 (some S16.1)) (fun h34 => fh_let (fh_push S25 13 10) (fun S35 => fh_let (fh_z h34 S25.1) (fun h36 => fh_let (fh_sR h36 a 6 (some S25.1)) (fun h45 => fh_let (fh_push S35 13 10) (fun S46 => fh_let (fh_z h45 S35.1) (fun h47 => fh_let (fh_sR h47 a 7 (some S35.1)) (fun h57 => fh_let (fh_push S46 13 600) (fun S58 => fh_let (fh_z h57 S46.1) (fun h59 => fh_let (fh_sR h59 a 8 (some S46.1)) (fun h70 => fh_let (fh_push S58 13 600) (fun S71 => fh_let (fh_z h70 S58.1) (fun h72 => fh_let (fh_sR h72 a 9 (some S58.1)) (fun h84 => fh_let (fh_push S71 14 60) (fun S85 => fh_let (fh_z h84 S71.1) (fun h86 => fh_let (fh_sR h86 a 10 (some S71.1)) (fun h99 => fh_let (fh_push S85 14 60) (fun S100 => fh_let (fh_z h99 S85.1) (fun h101 => fh_let (fh_sR h101 a 11 (some S85.1)) (fun h115 => fh_let (fh_push S100 14 8) (fun S116 => fh_let (fh_z h115 S100.1) (fun h117 => fh_let (fh_sR h117 a 13 (some S100.1)) (fun h132 => fh_let (fh_push S116 14 8) (fun S133 => fh_let (fh_z h132 S116.1) (fun h134 => fh_let (fh_sR h134 a 14 (some S116.1)) (fun h150 => fh_let (fh_push S133 14 60) (fun S151 => fh_let (fh_z h150 S133.1) (fun h152 => fh_let (fh_sR h152 a 26 (some S133.1)) (fun h169 => fh_let (fh_push S151 14 60) (fun S170 => fh_let (fh_z h169 S151.1) (fun h171 => fh_let (fh_sR h171 a 27 (some S151.1)) (fun h189 => fh_let (fh_push S170 13 900) (fun S190 => fh_let (fh_z h189 S170.1) (fun h191 => fh_let (fh_sR h191 a 31 (some S170.1)) (fun h210 => fh_let (fh_push S190 13 200) (fun S211 => fh_let (fh_z h210 S190.1) (fun h212 => fh_let (fh_sR h212 a 33 (some S190.1)) (fun h232 => fh_let (fh_push S211 13 100) (fun S233 => fh_let (fh_z h232 S211.1) (fun h234 => fh_let (fh_sR h234 a 34 (some S211.1)) (fun h255 => fh_let (fh_sI h255 a 43 (-1 : Int32)) (fun h256 => z_X12_init_b154 11 a S233 h256 (0 : Int32)))))))))))))))))))))))))))))))))))))))))))))))))))))
set_option maxHeartbeats 4000000 in
set_option maxRecDepth 100000 in
theorem k_X12_init {l : Launch} {S S' : fh_S} {g : fh_G} {h h' : fh_H} (hj : fh_inj S g) (hok : fh_ok S h) {a : Nat} (ha : fh_kq S a 12 = true) (hsp : z_X12_init S h a = some (S', h')) : fd_M l yX12_init cX12_init 2 9 17 21816 S g [.ref (g.2.2 a)] h S' h' := by
  unfold z_X12_init at hsp
  refine fd_head (own := RX12) (by decide) rfl rfl hj (Nat.le_of_ble_eq_true rfl) ?_
  intro p e s m below meth c ls C hN hin hr hlocks hR hl
  have hl : lv_has ls 2 [(0, .ref (g.2.2 a))] := hl
  generalize List.toArray ([.ref (g.2.2 a)] : List Value) = args at C ⊢
  have hx := C.1.1
  have hb_ := C.1.2.1
  have hE : fn_rel S g S g s.heap.size := fn_rel.rf
  have hb : ∀ (n : Nat) (Sx : fh_S) (gx : fh_G) (hx1 : fh_H) (y1 : Int32) (H : Heap) (locs : List Loc) (ls : Array Slot) (cells slots : Nat), z_X12_init_b154 n a Sx hx1 y1 = some (S', h') → fh_C p m c cX12_init 2 s args RX12 Sx gx → fh_R Sx gx s.heap hx1 H locs → fn_rel S g Sx gx s.heap.size → cells + 0 * n ≤ 17 → slots + 0 * n ≤ 21816 → lv_has ls 2 [(0, .ref (gx.2.2 a)), (1, .int y1)] → W p l e (fc_rm 9 17 21816) s m args below meth c H locs cells slots (MQ below (fd_Q S g s.heap.size S' h') args s 17 21816 (fh_A S g s.heap.size)) (F0 m 154 ls []) := by
    intro n
    induction n with
    | zero => intro Sx gx hx1 y1 H locs ls cells slots hsp; cases hsp
    | succ n ih =>
      intro Sx gx hx1 y1 H locs ls cells slots hsp C hR hE hcs hss hl
      rw [z_X12_init_b154] at hsp
      obtain ⟨hk101, hsp⟩ := fr_ck hsp
      refine lv_iload_n hx hb_ dX12_init_154 rfl (lv_at hl 1 rfl) ?_
      refine lv_bipush (v := 10) hx hb_ dX12_init_155 (by decide) ?_
      refine lv_icmp_ge (tgt := 173) hx hb_ dX12_init_157 (by decide) (fun c102 => ?_) (fun c102 => ?_)
      · rw [if_pos c102] at hsp
        refine lv_aload_n hx hb_ dX12_init_173 rfl (lv_at hl 0 rfl) ?_
        obtain ⟨h103, E104, hsp⟩ := fr_b1 hsp
        refine fq_callV (rest := []) (st1 := []) C hR (k_X12_layAll C.2.2 hk101 E104) Y_X12_layAll YV_X12_layAll Lk_RX12_70 hk101 ⟨_, _, rfl, by decide⟩ rfl hl.1 ⟨Nat.le_of_ble_eq_true rfl, Nat.le_of_ble_eq_true rfl⟩ rfl (Nat.le_of_ble_eq_true rfl) ⟨(by show _ ≤ 17; omega), (by show _ ≤ 21816; omega)⟩ rfl dX12_init_174 (fun H locs hR => ?_)
        exact fd_ret C hr hlocks hR hE hsp (by omega) (by omega) dX12_init_177
      · rw [if_neg c102] at hsp
        refine lv_aload_n hx hb_ dX12_init_160 rfl (lv_at hl 0 rfl) ?_
        refine lv_iload_n hx hb_ dX12_init_161 rfl (lv_at hl 1 rfl) ?_
        refine lv_iconst (v := 2) hx hb_ dX12_init_162 (by decide) ?_
        refine lv_iconst (v := 1) hx hb_ dX12_init_163 (by decide) ?_
        obtain ⟨h105, E106, hsp⟩ := fr_b1 hsp
        refine fq_callV (rest := []) (st1 := []) C hR (k_X12_put C.2.2 hk101 E106) Y_X12_put YV_X12_put Lk_RX12_66 hk101 ⟨_, _, rfl, by decide⟩ rfl hl.1 ⟨Nat.le_of_ble_eq_true rfl, Nat.le_of_ble_eq_true rfl⟩ rfl (Nat.le_of_ble_eq_true rfl) ⟨(by show _ ≤ 17; omega), (by show _ ≤ 21816; omega)⟩ rfl dX12_init_164 (fun H locs hR => ?_)
        obtain ⟨v107, ev107⟩ : ∃ z, z = y1 + 1 := ⟨_, rfl⟩
        have hsp := fr_let ev107 hsp
        refine lv_iinc (v := v107) (lv' := [(1, .int v107), (0, .ref (gx.2.2 a))]) hx hb_ dX12_init_167 hl (k := 1) rfl (by rw [ev107]; rfl) (by decide) rfl (fun ls hl => ?_)
        refine lv_goto (tgt := 154) hx hb_ dX12_init_170 (by decide) ?_
        exact ih Sx gx h105 v107 _ _ _ _ _ hsp C hR hE (by omega) (by omega) (lv_sub hl [1, 0] rfl)
  refine lv_aload_n hx hb_ dX12_init_0 rfl (lv_at hl 0 rfl) ?_
  refine W.objInit hx hb_ C.1.2.2.2.1 (C.1.2.2.2.2 _ Ob_RX12) (C.1.2.2.2.2 _ Ob_i) (C.1.2.2.2.2 _ Ob_c) rfl (by rw [C.1.2.2.1]; exact hl.1) rfl dX12_init_1 (Nat.le_of_ble_eq_true rfl) (Nat.le_of_ble_eq_true rfl) ?_
  refine W.eq (g2 := F0 m 4 ls []) rfl ?_
  refine lv_aload_n hx hb_ dX12_init_4 rfl (lv_at hl 0 rfl) ?_
  refine lv_sipush (v := 1090) hx hb_ dX12_init_5 (by decide) ?_
  refine fn_newi (n := 1090) (N := 1090) C hR hok Ai_int (by decide) rfl (by decide) (by show _ ≤ 17; omega) (by show _ ≤ 21816; omega) dX12_init_8 (fun S1 h2 g3 H eS eh eg C hR hok hnew => ?_)
  have hsp := fr_let eS hsp
  have hsp := fr_let eh hsp
  have q4 := eg.2.2.2.1 (a) (fh_kq_lt ha)
  have hl : lv_has ls 2 [(0, .ref (g3.2.2 a))] := by rw [q4]; exact hl
  refine W.eq (g2 := F0 m 10 ls [.ref (g3.2.2 S.1), .ref (g3.2.2 a)]) (by simp only [q4]) ?_
  have hE := hE.trans eg (Nat.le_refl _)
  have hk5 := fn_kq eS ha
  have hk6 := hnew
  refine fn_putfr C hR hin hk5 Fq_RX12_9 rfl rfl rfl dX12_init_10 (fun H locs hR => ?_)
  obtain ⟨h7, eh7⟩ : ∃ z, z = fh_sR h2 a 0 (some S.1) := ⟨_, rfl⟩
  rw [← eh7] at hR
  have hsp := fr_let eh7 hsp
  have hok : fh_ok S1 h7 := by rw [eh7]; exact fh_ok_sR hok (fh_kq_lt hk6)
  refine lv_aload_n hx hb_ dX12_init_13 rfl (lv_at hl 0 rfl) ?_
  refine lv_sipush (v := 17440) hx hb_ dX12_init_14 (by decide) ?_
  refine fn_newi (n := 17440) (N := 17440) C hR hok Ai_int (by decide) rfl (by decide) (by show _ ≤ 17; omega) (by show _ ≤ 21816; omega) dX12_init_17 (fun S8 h9 g10 H eS eh eg C hR hok hnew => ?_)
  have hsp := fr_let eS hsp
  have hsp := fr_let eh hsp
  have q11 := eg.2.2.2.1 (a) (fh_kq_lt hk5)
  have hl : lv_has ls 2 [(0, .ref (g10.2.2 a))] := by rw [q11]; exact hl
  refine W.eq (g2 := F0 m 19 ls [.ref (g10.2.2 S1.1), .ref (g10.2.2 a)]) (by simp only [q11]) ?_
  have hE := hE.trans eg (Nat.le_refl _)
  have hk12 := fn_kq eS hk5
  have hk13 := fn_kq eS hk6
  have hk14 := hnew
  refine fn_putfr C hR hin hk12 Fq_RX12_13 rfl rfl rfl dX12_init_19 (fun H locs hR => ?_)
  obtain ⟨h15, eh15⟩ : ∃ z, z = fh_sR h9 a 1 (some S1.1) := ⟨_, rfl⟩
  rw [← eh15] at hR
  have hsp := fr_let eh15 hsp
  have hok : fh_ok S8 h15 := by rw [eh15]; exact fh_ok_sR hok (fh_kq_lt hk14)
  refine lv_aload_n hx hb_ dX12_init_22 rfl (lv_at hl 0 rfl) ?_
  refine lv_sipush (v := 600) hx hb_ dX12_init_23 (by decide) ?_
  refine fn_newi (n := 600) (N := 600) C hR hok Ai_int (by decide) rfl (by decide) (by show _ ≤ 17; omega) (by show _ ≤ 21816; omega) dX12_init_26 (fun S16 h17 g18 H eS eh eg C hR hok hnew => ?_)
  have hsp := fr_let eS hsp
  have hsp := fr_let eh hsp
  have q19 := eg.2.2.2.1 (a) (fh_kq_lt hk12)
  have hl : lv_has ls 2 [(0, .ref (g18.2.2 a))] := by rw [q19]; exact hl
  refine W.eq (g2 := F0 m 28 ls [.ref (g18.2.2 S8.1), .ref (g18.2.2 a)]) (by simp only [q19]) ?_
  have hE := hE.trans eg (Nat.le_refl _)
  have hk20 := fn_kq eS hk12
  have hk21 := fn_kq eS hk13
  have hk22 := fn_kq eS hk14
  have hk23 := hnew
  refine fn_putfr C hR hin hk20 Fq_RX12_16 rfl rfl rfl dX12_init_28 (fun H locs hR => ?_)
  obtain ⟨h24, eh24⟩ : ∃ z, z = fh_sR h17 a 4 (some S8.1) := ⟨_, rfl⟩
  rw [← eh24] at hR
  have hsp := fr_let eh24 hsp
  have hok : fh_ok S16 h24 := by rw [eh24]; exact fh_ok_sR hok (fh_kq_lt hk23)
  refine lv_aload_n hx hb_ dX12_init_31 rfl (lv_at hl 0 rfl) ?_
  refine lv_bipush (v := 10) hx hb_ dX12_init_32 (by decide) ?_
  refine fn_newi (n := 10) (N := 10) C hR hok Ai_int (by decide) rfl (by decide) (by show _ ≤ 17; omega) (by show _ ≤ 21816; omega) dX12_init_34 (fun S25 h26 g27 H eS eh eg C hR hok hnew => ?_)
  have hsp := fr_let eS hsp
  have hsp := fr_let eh hsp
  have q28 := eg.2.2.2.1 (a) (fh_kq_lt hk20)
  have hl : lv_has ls 2 [(0, .ref (g27.2.2 a))] := by rw [q28]; exact hl
  refine W.eq (g2 := F0 m 36 ls [.ref (g27.2.2 S16.1), .ref (g27.2.2 a)]) (by simp only [q28]) ?_
  have hE := hE.trans eg (Nat.le_refl _)
  have hk29 := fn_kq eS hk20
  have hk30 := fn_kq eS hk21
  have hk31 := fn_kq eS hk22
  have hk32 := fn_kq eS hk23
  have hk33 := hnew
  refine fn_putfr C hR hin hk29 Fq_RX12_19 rfl rfl rfl dX12_init_36 (fun H locs hR => ?_)
  obtain ⟨h34, eh34⟩ : ∃ z, z = fh_sR h26 a 5 (some S16.1) := ⟨_, rfl⟩
  rw [← eh34] at hR
  have hsp := fr_let eh34 hsp
  have hok : fh_ok S25 h34 := by rw [eh34]; exact fh_ok_sR hok (fh_kq_lt hk33)
  refine lv_aload_n hx hb_ dX12_init_39 rfl (lv_at hl 0 rfl) ?_
  refine lv_bipush (v := 10) hx hb_ dX12_init_40 (by decide) ?_
  refine fn_newi (n := 10) (N := 10) C hR hok Ai_int (by decide) rfl (by decide) (by show _ ≤ 17; omega) (by show _ ≤ 21816; omega) dX12_init_42 (fun S35 h36 g37 H eS eh eg C hR hok hnew => ?_)
  have hsp := fr_let eS hsp
  have hsp := fr_let eh hsp
  have q38 := eg.2.2.2.1 (a) (fh_kq_lt hk29)
  have hl : lv_has ls 2 [(0, .ref (g37.2.2 a))] := by rw [q38]; exact hl
  refine W.eq (g2 := F0 m 44 ls [.ref (g37.2.2 S25.1), .ref (g37.2.2 a)]) (by simp only [q38]) ?_
  have hE := hE.trans eg (Nat.le_refl _)
  have hk39 := fn_kq eS hk29
  have hk40 := fn_kq eS hk30
  have hk41 := fn_kq eS hk31
  have hk42 := fn_kq eS hk32
  have hk43 := fn_kq eS hk33
  have hk44 := hnew
  refine fn_putfr C hR hin hk39 Fq_RX12_22 rfl rfl rfl dX12_init_44 (fun H locs hR => ?_)
  obtain ⟨h45, eh45⟩ : ∃ z, z = fh_sR h36 a 6 (some S25.1) := ⟨_, rfl⟩
  rw [← eh45] at hR
  have hsp := fr_let eh45 hsp
  have hok : fh_ok S35 h45 := by rw [eh45]; exact fh_ok_sR hok (fh_kq_lt hk44)
  refine lv_aload_n hx hb_ dX12_init_47 rfl (lv_at hl 0 rfl) ?_
  refine lv_bipush (v := 10) hx hb_ dX12_init_48 (by decide) ?_
  refine fn_newi (n := 10) (N := 10) C hR hok Ai_int (by decide) rfl (by decide) (by show _ ≤ 17; omega) (by show _ ≤ 21816; omega) dX12_init_50 (fun S46 h47 g48 H eS eh eg C hR hok hnew => ?_)
  have hsp := fr_let eS hsp
  have hsp := fr_let eh hsp
  have q49 := eg.2.2.2.1 (a) (fh_kq_lt hk39)
  have hl : lv_has ls 2 [(0, .ref (g48.2.2 a))] := by rw [q49]; exact hl
  refine W.eq (g2 := F0 m 52 ls [.ref (g48.2.2 S35.1), .ref (g48.2.2 a)]) (by simp only [q49]) ?_
  have hE := hE.trans eg (Nat.le_refl _)
  have hk50 := fn_kq eS hk39
  have hk51 := fn_kq eS hk40
  have hk52 := fn_kq eS hk41
  have hk53 := fn_kq eS hk42
  have hk54 := fn_kq eS hk43
  have hk55 := fn_kq eS hk44
  have hk56 := hnew
  refine fn_putfr C hR hin hk50 Fq_RX12_25 rfl rfl rfl dX12_init_52 (fun H locs hR => ?_)
  obtain ⟨h57, eh57⟩ : ∃ z, z = fh_sR h47 a 7 (some S35.1) := ⟨_, rfl⟩
  rw [← eh57] at hR
  have hsp := fr_let eh57 hsp
  have hok : fh_ok S46 h57 := by rw [eh57]; exact fh_ok_sR hok (fh_kq_lt hk56)
  refine lv_aload_n hx hb_ dX12_init_55 rfl (lv_at hl 0 rfl) ?_
  refine lv_sipush (v := 600) hx hb_ dX12_init_56 (by decide) ?_
  refine fn_newi (n := 600) (N := 600) C hR hok Ai_int (by decide) rfl (by decide) (by show _ ≤ 17; omega) (by show _ ≤ 21816; omega) dX12_init_59 (fun S58 h59 g60 H eS eh eg C hR hok hnew => ?_)
  have hsp := fr_let eS hsp
  have hsp := fr_let eh hsp
  have q61 := eg.2.2.2.1 (a) (fh_kq_lt hk50)
  have hl : lv_has ls 2 [(0, .ref (g60.2.2 a))] := by rw [q61]; exact hl
  refine W.eq (g2 := F0 m 61 ls [.ref (g60.2.2 S46.1), .ref (g60.2.2 a)]) (by simp only [q61]) ?_
  have hE := hE.trans eg (Nat.le_refl _)
  have hk62 := fn_kq eS hk50
  have hk63 := fn_kq eS hk51
  have hk64 := fn_kq eS hk52
  have hk65 := fn_kq eS hk53
  have hk66 := fn_kq eS hk54
  have hk67 := fn_kq eS hk55
  have hk68 := fn_kq eS hk56
  have hk69 := hnew
  refine fn_putfr C hR hin hk62 Fq_RX12_28 rfl rfl rfl dX12_init_61 (fun H locs hR => ?_)
  obtain ⟨h70, eh70⟩ : ∃ z, z = fh_sR h59 a 8 (some S46.1) := ⟨_, rfl⟩
  rw [← eh70] at hR
  have hsp := fr_let eh70 hsp
  have hok : fh_ok S58 h70 := by rw [eh70]; exact fh_ok_sR hok (fh_kq_lt hk69)
  refine lv_aload_n hx hb_ dX12_init_64 rfl (lv_at hl 0 rfl) ?_
  refine lv_sipush (v := 600) hx hb_ dX12_init_65 (by decide) ?_
  refine fn_newi (n := 600) (N := 600) C hR hok Ai_int (by decide) rfl (by decide) (by show _ ≤ 17; omega) (by show _ ≤ 21816; omega) dX12_init_68 (fun S71 h72 g73 H eS eh eg C hR hok hnew => ?_)
  have hsp := fr_let eS hsp
  have hsp := fr_let eh hsp
  have q74 := eg.2.2.2.1 (a) (fh_kq_lt hk62)
  have hl : lv_has ls 2 [(0, .ref (g73.2.2 a))] := by rw [q74]; exact hl
  refine W.eq (g2 := F0 m 70 ls [.ref (g73.2.2 S58.1), .ref (g73.2.2 a)]) (by simp only [q74]) ?_
  have hE := hE.trans eg (Nat.le_refl _)
  have hk75 := fn_kq eS hk62
  have hk76 := fn_kq eS hk63
  have hk77 := fn_kq eS hk64
  have hk78 := fn_kq eS hk65
  have hk79 := fn_kq eS hk66
  have hk80 := fn_kq eS hk67
  have hk81 := fn_kq eS hk68
  have hk82 := fn_kq eS hk69
  have hk83 := hnew
  refine fn_putfr C hR hin hk75 Fq_RX12_31 rfl rfl rfl dX12_init_70 (fun H locs hR => ?_)
  obtain ⟨h84, eh84⟩ : ∃ z, z = fh_sR h72 a 9 (some S58.1) := ⟨_, rfl⟩
  rw [← eh84] at hR
  have hsp := fr_let eh84 hsp
  have hok : fh_ok S71 h84 := by rw [eh84]; exact fh_ok_sR hok (fh_kq_lt hk83)
  refine lv_aload_n hx hb_ dX12_init_73 rfl (lv_at hl 0 rfl) ?_
  refine lv_bipush (v := 60) hx hb_ dX12_init_74 (by decide) ?_
  refine fn_newj (n := 60) (N := 60) C hR hok Ai_long (by decide) rfl (by decide) (by show _ ≤ 17; omega) (by show _ ≤ 21816; omega) dX12_init_76 (fun S85 h86 g87 H eS eh eg C hR hok hnew => ?_)
  have hsp := fr_let eS hsp
  have hsp := fr_let eh hsp
  have q88 := eg.2.2.2.1 (a) (fh_kq_lt hk75)
  have hl : lv_has ls 2 [(0, .ref (g87.2.2 a))] := by rw [q88]; exact hl
  refine W.eq (g2 := F0 m 78 ls [.ref (g87.2.2 S71.1), .ref (g87.2.2 a)]) (by simp only [q88]) ?_
  have hE := hE.trans eg (Nat.le_refl _)
  have hk89 := fn_kq eS hk75
  have hk90 := fn_kq eS hk76
  have hk91 := fn_kq eS hk77
  have hk92 := fn_kq eS hk78
  have hk93 := fn_kq eS hk79
  have hk94 := fn_kq eS hk80
  have hk95 := fn_kq eS hk81
  have hk96 := fn_kq eS hk82
  have hk97 := fn_kq eS hk83
  have hk98 := hnew
  refine fn_putfr C hR hin hk89 Fq_RX12_34 rfl rfl rfl dX12_init_78 (fun H locs hR => ?_)
  obtain ⟨h99, eh99⟩ : ∃ z, z = fh_sR h86 a 10 (some S71.1) := ⟨_, rfl⟩
  rw [← eh99] at hR
  have hsp := fr_let eh99 hsp
  have hok : fh_ok S85 h99 := by rw [eh99]; exact fh_ok_sR hok (fh_kq_lt hk98)
  refine lv_aload_n hx hb_ dX12_init_81 rfl (lv_at hl 0 rfl) ?_
  refine lv_bipush (v := 60) hx hb_ dX12_init_82 (by decide) ?_
  refine fn_newj (n := 60) (N := 60) C hR hok Ai_long (by decide) rfl (by decide) (by show _ ≤ 17; omega) (by show _ ≤ 21816; omega) dX12_init_84 (fun S100 h101 g102 H eS eh eg C hR hok hnew => ?_)
  have hsp := fr_let eS hsp
  have hsp := fr_let eh hsp
  have q103 := eg.2.2.2.1 (a) (fh_kq_lt hk89)
  have hl : lv_has ls 2 [(0, .ref (g102.2.2 a))] := by rw [q103]; exact hl
  refine W.eq (g2 := F0 m 86 ls [.ref (g102.2.2 S85.1), .ref (g102.2.2 a)]) (by simp only [q103]) ?_
  have hE := hE.trans eg (Nat.le_refl _)
  have hk104 := fn_kq eS hk89
  have hk105 := fn_kq eS hk90
  have hk106 := fn_kq eS hk91
  have hk107 := fn_kq eS hk92
  have hk108 := fn_kq eS hk93
  have hk109 := fn_kq eS hk94
  have hk110 := fn_kq eS hk95
  have hk111 := fn_kq eS hk96
  have hk112 := fn_kq eS hk97
  have hk113 := fn_kq eS hk98
  have hk114 := hnew
  refine fn_putfr C hR hin hk104 Fq_RX12_38 rfl rfl rfl dX12_init_86 (fun H locs hR => ?_)
  obtain ⟨h115, eh115⟩ : ∃ z, z = fh_sR h101 a 11 (some S85.1) := ⟨_, rfl⟩
  rw [← eh115] at hR
  have hsp := fr_let eh115 hsp
  have hok : fh_ok S100 h115 := by rw [eh115]; exact fh_ok_sR hok (fh_kq_lt hk114)
  refine lv_aload_n hx hb_ dX12_init_89 rfl (lv_at hl 0 rfl) ?_
  refine lv_bipush (v := 8) hx hb_ dX12_init_90 (by decide) ?_
  refine fn_newj (n := 8) (N := 8) C hR hok Ai_long (by decide) rfl (by decide) (by show _ ≤ 17; omega) (by show _ ≤ 21816; omega) dX12_init_92 (fun S116 h117 g118 H eS eh eg C hR hok hnew => ?_)
  have hsp := fr_let eS hsp
  have hsp := fr_let eh hsp
  have q119 := eg.2.2.2.1 (a) (fh_kq_lt hk104)
  have hl : lv_has ls 2 [(0, .ref (g118.2.2 a))] := by rw [q119]; exact hl
  refine W.eq (g2 := F0 m 94 ls [.ref (g118.2.2 S100.1), .ref (g118.2.2 a)]) (by simp only [q119]) ?_
  have hE := hE.trans eg (Nat.le_refl _)
  have hk120 := fn_kq eS hk104
  have hk121 := fn_kq eS hk105
  have hk122 := fn_kq eS hk106
  have hk123 := fn_kq eS hk107
  have hk124 := fn_kq eS hk108
  have hk125 := fn_kq eS hk109
  have hk126 := fn_kq eS hk110
  have hk127 := fn_kq eS hk111
  have hk128 := fn_kq eS hk112
  have hk129 := fn_kq eS hk113
  have hk130 := fn_kq eS hk114
  have hk131 := hnew
  refine fn_putfr C hR hin hk120 Fq_RX12_41 rfl rfl rfl dX12_init_94 (fun H locs hR => ?_)
  obtain ⟨h132, eh132⟩ : ∃ z, z = fh_sR h117 a 13 (some S100.1) := ⟨_, rfl⟩
  rw [← eh132] at hR
  have hsp := fr_let eh132 hsp
  have hok : fh_ok S116 h132 := by rw [eh132]; exact fh_ok_sR hok (fh_kq_lt hk131)
  refine lv_aload_n hx hb_ dX12_init_97 rfl (lv_at hl 0 rfl) ?_
  refine lv_bipush (v := 8) hx hb_ dX12_init_98 (by decide) ?_
  refine fn_newj (n := 8) (N := 8) C hR hok Ai_long (by decide) rfl (by decide) (by show _ ≤ 17; omega) (by show _ ≤ 21816; omega) dX12_init_100 (fun S133 h134 g135 H eS eh eg C hR hok hnew => ?_)
  have hsp := fr_let eS hsp
  have hsp := fr_let eh hsp
  have q136 := eg.2.2.2.1 (a) (fh_kq_lt hk120)
  have hl : lv_has ls 2 [(0, .ref (g135.2.2 a))] := by rw [q136]; exact hl
  refine W.eq (g2 := F0 m 102 ls [.ref (g135.2.2 S116.1), .ref (g135.2.2 a)]) (by simp only [q136]) ?_
  have hE := hE.trans eg (Nat.le_refl _)
  have hk137 := fn_kq eS hk120
  have hk138 := fn_kq eS hk121
  have hk139 := fn_kq eS hk122
  have hk140 := fn_kq eS hk123
  have hk141 := fn_kq eS hk124
  have hk142 := fn_kq eS hk125
  have hk143 := fn_kq eS hk126
  have hk144 := fn_kq eS hk127
  have hk145 := fn_kq eS hk128
  have hk146 := fn_kq eS hk129
  have hk147 := fn_kq eS hk130
  have hk148 := fn_kq eS hk131
  have hk149 := hnew
  refine fn_putfr C hR hin hk137 Fq_RX12_44 rfl rfl rfl dX12_init_102 (fun H locs hR => ?_)
  obtain ⟨h150, eh150⟩ : ∃ z, z = fh_sR h134 a 14 (some S116.1) := ⟨_, rfl⟩
  rw [← eh150] at hR
  have hsp := fr_let eh150 hsp
  have hok : fh_ok S133 h150 := by rw [eh150]; exact fh_ok_sR hok (fh_kq_lt hk149)
  refine lv_aload_n hx hb_ dX12_init_105 rfl (lv_at hl 0 rfl) ?_
  refine lv_bipush (v := 60) hx hb_ dX12_init_106 (by decide) ?_
  refine fn_newj (n := 60) (N := 60) C hR hok Ai_long (by decide) rfl (by decide) (by show _ ≤ 17; omega) (by show _ ≤ 21816; omega) dX12_init_108 (fun S151 h152 g153 H eS eh eg C hR hok hnew => ?_)
  have hsp := fr_let eS hsp
  have hsp := fr_let eh hsp
  have q154 := eg.2.2.2.1 (a) (fh_kq_lt hk137)
  have hl : lv_has ls 2 [(0, .ref (g153.2.2 a))] := by rw [q154]; exact hl
  refine W.eq (g2 := F0 m 110 ls [.ref (g153.2.2 S133.1), .ref (g153.2.2 a)]) (by simp only [q154]) ?_
  have hE := hE.trans eg (Nat.le_refl _)
  have hk155 := fn_kq eS hk137
  have hk156 := fn_kq eS hk138
  have hk157 := fn_kq eS hk139
  have hk158 := fn_kq eS hk140
  have hk159 := fn_kq eS hk141
  have hk160 := fn_kq eS hk142
  have hk161 := fn_kq eS hk143
  have hk162 := fn_kq eS hk144
  have hk163 := fn_kq eS hk145
  have hk164 := fn_kq eS hk146
  have hk165 := fn_kq eS hk147
  have hk166 := fn_kq eS hk148
  have hk167 := fn_kq eS hk149
  have hk168 := hnew
  refine fn_putfr C hR hin hk155 Fq_RX12_47 rfl rfl rfl dX12_init_110 (fun H locs hR => ?_)
  obtain ⟨h169, eh169⟩ : ∃ z, z = fh_sR h152 a 26 (some S133.1) := ⟨_, rfl⟩
  rw [← eh169] at hR
  have hsp := fr_let eh169 hsp
  have hok : fh_ok S151 h169 := by rw [eh169]; exact fh_ok_sR hok (fh_kq_lt hk168)
  refine lv_aload_n hx hb_ dX12_init_113 rfl (lv_at hl 0 rfl) ?_
  refine lv_bipush (v := 60) hx hb_ dX12_init_114 (by decide) ?_
  refine fn_newj (n := 60) (N := 60) C hR hok Ai_long (by decide) rfl (by decide) (by show _ ≤ 17; omega) (by show _ ≤ 21816; omega) dX12_init_116 (fun S170 h171 g172 H eS eh eg C hR hok hnew => ?_)
  have hsp := fr_let eS hsp
  have hsp := fr_let eh hsp
  have q173 := eg.2.2.2.1 (a) (fh_kq_lt hk155)
  have hl : lv_has ls 2 [(0, .ref (g172.2.2 a))] := by rw [q173]; exact hl
  refine W.eq (g2 := F0 m 118 ls [.ref (g172.2.2 S151.1), .ref (g172.2.2 a)]) (by simp only [q173]) ?_
  have hE := hE.trans eg (Nat.le_refl _)
  have hk174 := fn_kq eS hk155
  have hk175 := fn_kq eS hk156
  have hk176 := fn_kq eS hk157
  have hk177 := fn_kq eS hk158
  have hk178 := fn_kq eS hk159
  have hk179 := fn_kq eS hk160
  have hk180 := fn_kq eS hk161
  have hk181 := fn_kq eS hk162
  have hk182 := fn_kq eS hk163
  have hk183 := fn_kq eS hk164
  have hk184 := fn_kq eS hk165
  have hk185 := fn_kq eS hk166
  have hk186 := fn_kq eS hk167
  have hk187 := fn_kq eS hk168
  have hk188 := hnew
  refine fn_putfr C hR hin hk174 Fq_RX12_50 rfl rfl rfl dX12_init_118 (fun H locs hR => ?_)
  obtain ⟨h189, eh189⟩ : ∃ z, z = fh_sR h171 a 27 (some S151.1) := ⟨_, rfl⟩
  rw [← eh189] at hR
  have hsp := fr_let eh189 hsp
  have hok : fh_ok S170 h189 := by rw [eh189]; exact fh_ok_sR hok (fh_kq_lt hk188)
  refine lv_aload_n hx hb_ dX12_init_121 rfl (lv_at hl 0 rfl) ?_
  refine lv_sipush (v := 900) hx hb_ dX12_init_122 (by decide) ?_
  refine fn_newi (n := 900) (N := 900) C hR hok Ai_int (by decide) rfl (by decide) (by show _ ≤ 17; omega) (by show _ ≤ 21816; omega) dX12_init_125 (fun S190 h191 g192 H eS eh eg C hR hok hnew => ?_)
  have hsp := fr_let eS hsp
  have hsp := fr_let eh hsp
  have q193 := eg.2.2.2.1 (a) (fh_kq_lt hk174)
  have hl : lv_has ls 2 [(0, .ref (g192.2.2 a))] := by rw [q193]; exact hl
  refine W.eq (g2 := F0 m 127 ls [.ref (g192.2.2 S170.1), .ref (g192.2.2 a)]) (by simp only [q193]) ?_
  have hE := hE.trans eg (Nat.le_refl _)
  have hk194 := fn_kq eS hk174
  have hk195 := fn_kq eS hk175
  have hk196 := fn_kq eS hk176
  have hk197 := fn_kq eS hk177
  have hk198 := fn_kq eS hk178
  have hk199 := fn_kq eS hk179
  have hk200 := fn_kq eS hk180
  have hk201 := fn_kq eS hk181
  have hk202 := fn_kq eS hk182
  have hk203 := fn_kq eS hk183
  have hk204 := fn_kq eS hk184
  have hk205 := fn_kq eS hk185
  have hk206 := fn_kq eS hk186
  have hk207 := fn_kq eS hk187
  have hk208 := fn_kq eS hk188
  have hk209 := hnew
  refine fn_putfr C hR hin hk194 Fq_RX12_53 rfl rfl rfl dX12_init_127 (fun H locs hR => ?_)
  obtain ⟨h210, eh210⟩ : ∃ z, z = fh_sR h191 a 31 (some S170.1) := ⟨_, rfl⟩
  rw [← eh210] at hR
  have hsp := fr_let eh210 hsp
  have hok : fh_ok S190 h210 := by rw [eh210]; exact fh_ok_sR hok (fh_kq_lt hk209)
  refine lv_aload_n hx hb_ dX12_init_130 rfl (lv_at hl 0 rfl) ?_
  refine lv_sipush (v := 200) hx hb_ dX12_init_131 (by decide) ?_
  refine fn_newi (n := 200) (N := 200) C hR hok Ai_int (by decide) rfl (by decide) (by show _ ≤ 17; omega) (by show _ ≤ 21816; omega) dX12_init_134 (fun S211 h212 g213 H eS eh eg C hR hok hnew => ?_)
  have hsp := fr_let eS hsp
  have hsp := fr_let eh hsp
  have q214 := eg.2.2.2.1 (a) (fh_kq_lt hk194)
  have hl : lv_has ls 2 [(0, .ref (g213.2.2 a))] := by rw [q214]; exact hl
  refine W.eq (g2 := F0 m 136 ls [.ref (g213.2.2 S190.1), .ref (g213.2.2 a)]) (by simp only [q214]) ?_
  have hE := hE.trans eg (Nat.le_refl _)
  have hk215 := fn_kq eS hk194
  have hk216 := fn_kq eS hk195
  have hk217 := fn_kq eS hk196
  have hk218 := fn_kq eS hk197
  have hk219 := fn_kq eS hk198
  have hk220 := fn_kq eS hk199
  have hk221 := fn_kq eS hk200
  have hk222 := fn_kq eS hk201
  have hk223 := fn_kq eS hk202
  have hk224 := fn_kq eS hk203
  have hk225 := fn_kq eS hk204
  have hk226 := fn_kq eS hk205
  have hk227 := fn_kq eS hk206
  have hk228 := fn_kq eS hk207
  have hk229 := fn_kq eS hk208
  have hk230 := fn_kq eS hk209
  have hk231 := hnew
  refine fn_putfr C hR hin hk215 Fq_RX12_56 rfl rfl rfl dX12_init_136 (fun H locs hR => ?_)
  obtain ⟨h232, eh232⟩ : ∃ z, z = fh_sR h212 a 33 (some S190.1) := ⟨_, rfl⟩
  rw [← eh232] at hR
  have hsp := fr_let eh232 hsp
  have hok : fh_ok S211 h232 := by rw [eh232]; exact fh_ok_sR hok (fh_kq_lt hk231)
  refine lv_aload_n hx hb_ dX12_init_139 rfl (lv_at hl 0 rfl) ?_
  refine lv_bipush (v := 100) hx hb_ dX12_init_140 (by decide) ?_
  refine fn_newi (n := 100) (N := 100) C hR hok Ai_int (by decide) rfl (by decide) (by show _ ≤ 17; omega) (by show _ ≤ 21816; omega) dX12_init_142 (fun S233 h234 g235 H eS eh eg C hR hok hnew => ?_)
  have hsp := fr_let eS hsp
  have hsp := fr_let eh hsp
  have q236 := eg.2.2.2.1 (a) (fh_kq_lt hk215)
  have hl : lv_has ls 2 [(0, .ref (g235.2.2 a))] := by rw [q236]; exact hl
  refine W.eq (g2 := F0 m 144 ls [.ref (g235.2.2 S211.1), .ref (g235.2.2 a)]) (by simp only [q236]) ?_
  have hE := hE.trans eg (Nat.le_refl _)
  have hk237 := fn_kq eS hk215
  have hk238 := fn_kq eS hk216
  have hk239 := fn_kq eS hk217
  have hk240 := fn_kq eS hk218
  have hk241 := fn_kq eS hk219
  have hk242 := fn_kq eS hk220
  have hk243 := fn_kq eS hk221
  have hk244 := fn_kq eS hk222
  have hk245 := fn_kq eS hk223
  have hk246 := fn_kq eS hk224
  have hk247 := fn_kq eS hk225
  have hk248 := fn_kq eS hk226
  have hk249 := fn_kq eS hk227
  have hk250 := fn_kq eS hk228
  have hk251 := fn_kq eS hk229
  have hk252 := fn_kq eS hk230
  have hk253 := fn_kq eS hk231
  have hk254 := hnew
  refine fn_putfr C hR hin hk237 Fq_RX12_59 rfl rfl rfl dX12_init_144 (fun H locs hR => ?_)
  obtain ⟨h255, eh255⟩ : ∃ z, z = fh_sR h234 a 34 (some S211.1) := ⟨_, rfl⟩
  rw [← eh255] at hR
  have hsp := fr_let eh255 hsp
  have hok : fh_ok S233 h255 := by rw [eh255]; exact fh_ok_sR hok (fh_kq_lt hk254)
  refine lv_aload_n hx hb_ dX12_init_147 rfl (lv_at hl 0 rfl) ?_
  refine lv_iconst (v := -1) hx hb_ dX12_init_148 (by decide) ?_
  refine fr_puti C hR hk237 Fp_RX12_62 rfl dX12_init_149 (fun H locs hR => ?_)
  obtain ⟨h256, eh256⟩ : ∃ z, z = fh_sI h255 a 43 (-1 : Int32) := ⟨_, rfl⟩
  rw [← eh256] at hR
  have hsp := fr_let eh256 hsp
  have hok : fh_ok S233 h256 := by rw [eh256]; exact hok
  refine lv_iconst (v := 0) hx hb_ dX12_init_152 (by decide) ?_
  refine lv_istore_n (lv' := [(1, .int (0 : Int32)), (0, .ref (g235.2.2 a))]) hx hb_ dX12_init_153 rfl hl (by decide) rfl (fun ls hl => ?_)
  exact hb 11 S233 g235 h256 (0 : Int32) _ _ _ _ _ hsp C hR hE (by omega) (by omega) (lv_sub hl [1, 0] rfl)
