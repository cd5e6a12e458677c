/-! THE CLAIM OUT OF ONE WALK OF THE LAW'S BODY. Your part is whole_start (and what it stands on); all else here is the same for every law, but numbers. -/
def R_law : String := "TermRowsLaw"
def lw_P (b : Addr) (xs : List Int32) (args : Array Value) (s : State) : Prop := args = #[.ref b] ∧ s.IntsAt b xs ∧ xs.length ≤ 3584 ∧ (Jvm.Cond.and given_1 narrow_1).before args s = true
def lw_Q (_ : Array Value) (s : State) (o : Outcome) (t : State) : Prop := o = .returned (some (.int 1)) ∧ Framed s o t [] 601024 7293034
def lw_Z (below : List Frame) (a : Array Value) (s : State) : State → Prop := fun t => ∃ o, t.status = .running ∧ Ended t below o ∧ lw_Q a s o t
/-- the law's own end, with 1 on the stack, nothing written that was there before, its room as the claim has it -/
theorem lw_ret {p : Program} {l : Launch} {e : Env} {s : State} {m : MethodId} {below : List Frame} {meth : Method} {c : Code} {b : Nat} (hx : p.tables.exec = Jvm.exec) (hb : c.code = code) (hr : meth.sig.returnType = ret) (hlocks : meth.locks = false) {pc : Nat} {H : Heap} {ls : Array Slot} (hdg : decode code pc = .ok (.ireturn, 1)) : W p l e room_1 s m #[Value.ref b] below meth c H [] 601024 7293034 (lw_Z below #[Value.ref b] s) (F0 m pc ls [.int 1]) := by
  intro T hT X
  obtain ⟨fs, hret, hrun, hended, hW, hframe⟩ := X.leave (v := some (.int 1)) (hlocks := hlocks) (fun h => by rw [hr] at h; cases h)
  have hmeth' : T.vm.method? m = some meth := X.method'
  refine ⟨T.setFrames fs, ?_, .returned (some (.int 1)), hrun, hended, rfl, ⟨_, rfl⟩, hW, hframe⟩
  jvm_step X.here [X.here.top, hx, hb, hdg, hmeth', hr, ret, narrow_b1]
  (try refine ⟨rfl, ?_⟩); (try refine ⟨rfl, ?_⟩)
  first | (intro acts; rw [hret _ acts rfl rfl rfl]) | rw [hret _ _ rfl rfl rfl]
  exact Steps.refl _
/-- what holds at the law's entry: the machine, the code, the tables' words (any of lw_tbl by 'hts w (by decide +kernel)'), the script of L ints xs at the cell b, what the Statement gives of the start (any of its parts by flat_of_before) -/
def lw_At (p : Program) (s : State) (m : MethodId) (meth : Method) (c : Code) (b L : Nat) (xs : Nat → Int32) : Prop :=
  p.tables.exec = Jvm.exec ∧ c.code = code ∧ meth.sig.returnType = ret ∧ c.maxLocals = 8 ∧ s.vm.findClass R_law = some m.cls ∧ (∀ w ∈ lw_tbl, w.before #[Value.ref b] s = true) ∧ va_X b L xs s s.heap ∧ b < s.heap.size ∧ meth.locks = false ∧ (Jvm.Cond.and given_1 narrow_1).before #[Value.ref b] s = true
/-! THE LAW, from its entry to its end, if the flat functions say so -/
def z_S0 : fh_S := (0, fun _ => 0, fun _ => 0)
def z_h0 : fh_H := (fun _ _ => 0, fun _ _ => 0, fun _ _ => none)
def z_law (xs : Nat → Int32) (L : Nat) : Option Unit :=
  fh_let (fh_push z_S0 11 0) (fun S1 => fh_let (fh_z z_h0 z_S0.1) (fun h1 => fh_b2 (z_X11_init S1 h1 0) (fun S h =>
  fh_let (fh_push z_S0 12 0) (fun T1 => fh_let (fh_z z_h0 z_S0.1) (fun k1 => fh_b2 (z_X12_init T1 k1 0) (fun T k =>
  fh_ck (fh_kq S 0 11) (fh_ck (fh_kq T 0 12) (fh_let (fh_push S 14 1) (fun S3 => fh_let (fh_z h S.1) (fun h3 =>
  z_law_loop S3 T 0 0 S.1 xs L 513 h3 k 0))))))))))
theorem fx_E.narrow {z : (Nat → Nat) × (Nat → Nat)} {A B : Nat → Prop} {U : State} {H : Heap} (h : fx_E z A U H) (hAB : ∀ q, B q → A q) : fx_E z B U H := by
  obtain ⟨h1, h2, h3, h4, h5, h6, h7, h8⟩ := h
  exact ⟨fun i hi => ⟨(h1 i hi).1.narrow hAB, (h1 i hi).2.1.narrow hAB, (h1 i hi).2.2.1.narrow hAB, (h1 i hi).2.2.2.narrow hAB⟩, h2.narrow hAB, h3.narrow hAB, h4.narrow hAB, h5.narrow hAB, h6, h7, h8⟩
set_option maxHeartbeats 4000000 in
theorem law_start {p : Program} {e : Env} {s : State} {m : MethodId} {below : List Frame} {meth : Method} {c : Code} (l : Launch) (hlt : l.stackTraces = false) {b L : Nat} {xs : Nat → Int32} (hz : z_law xs L = some ()) (C0 : lw_At p s m meth c b L xs) : W p l e room_1 s m #[Value.ref b] below meth c s.heap [] 0 0 (lw_Z below #[Value.ref b] s) (entryFrame m ([Value.ref b] : List Value).toArray 8) := by
  obtain ⟨hx, hb, hr, hml, hown, hts, hX, hbl, hlocks, hgv⟩ := C0
  obtain ⟨D, cy, hK⟩ := ts_K hts
  have hN := ts_N hts
  have hLN := ts_L hts hgv
  obtain ⟨z, hE⟩ := ts_E hts hgv
  have hU := ts_U hts
  unfold z_law at hz
  obtain ⟨g0, eg0⟩ : ∃ g0 : fh_G, g0 = (D, cy, fun _ => 0) := ⟨_, rfl⟩
  have hK0 : fh_K g0 s := by rw [eg0]; exact hK _
  have C : fh_C p m c cL_law 8 s #[Value.ref b] RL z_S0 g0 := ⟨⟨hx, hb, hml, hown, hU⟩, hK0, fun i j hi => absurd hi (Nat.not_lt_zero _)⟩
  have J0 : fl_J s z_S0 g0 z_h0 z_S0 g0 z_h0 s.heap [] := ⟨(fun k q hq => by simp [fh_w, z_S0] at hq), (fun k q hq => by simp [fh_w, z_S0] at hq), (fun i j hi => absurd hi (Nat.not_lt_zero _)), (fun i hi => absurd hi (Nat.not_lt_zero _)), (fun i hi => absurd hi (Nat.not_lt_zero _)), va_S.rf⟩
  have ok0 : fh_ok z_S0 z_h0 := fun i k j h => by cases h
  have inj0 : fh_inj z_S0 g0 := fun i j hi => absurd hi (Nat.not_lt_zero _)
  have hbb : c.code = cL_law := hb
  rw [lg_entry_eq]
  have hl := lv_entry [Value.ref b] (n := 8) (Nat.le_of_ble_eq_true rfl)
  generalize (lg_sl [Value.ref b] ++ List.replicate (8 - (lg_sl [Value.ref b]).length) Slot.unset).toArray = ls at hl ⊢
  have hl : lv_has ls 8 [(0, Value.ref b)] := hl
  have CB := C
  refine fl_new (N := 10) C inj0 rfl J0 ok0 Kn_RL_8 rfl (by show _ ≤ 601024; omega) (by show _ ≤ 7293034; omega) dL_law_0 (fun S1 h1 g1 H eS eh eg C J hok hk => ?_)
  have hz := fr_let eS hz
  have hz := fr_let eh hz
  refine lv_dup hx hbb dL_law_3 rfl ?_
  obtain ⟨S, h, E1, hz⟩ := fr_b2 hz
  have hk : fh_kq S1 0 11 = true := hk
  refine fl_cI (rest := [.ref (g1.2.2 0)]) C hN J (k_X11_init C.2.2 hok hk E1) Y_X11_init rfl YI_X11_init Lk_RL_74 rfl hl.1 ⟨Nat.le_of_ble_eq_true rfl, Nat.le_of_ble_eq_true rfl⟩ rfl (Nat.le_of_ble_eq_true rfl) ⟨by show _ ≤ 601024; omega, by show _ ≤ 7293034; omega⟩ dL_law_4 (fun g2 H locs eg2 C J hok => ?_)
  have q1 := eg2.2.2.2.1 0 (fh_kq_lt hk)
  refine W.eq (g2 := F0 m 7 ls [.ref (g2.2.2 0)]) (by simp only [q1]) ?_
  refine lv_astore_n (lv' := [(1, .ref (g2.2.2 0)), (0, .ref b)]) hx hbb dL_law_7 rfl hl (by decide) rfl (fun ls hl => ?_)
  have J := J.swap
  have hg : g2.1 = g0.1 := eg2.2.1.trans eg.2.1
  refine fl_new (N := 49) CB C.2.2 hg J ok0 Kn_RL_75 rfl (by show _ ≤ 601024; omega) (by show _ ≤ 7293034; omega) dL_law_8 (fun T1 k1 gb1 H eS eh egb CB J hokB hkB => ?_)
  have hz := fr_let eS hz
  have hz := fr_let eh hz
  refine lv_dup hx hbb dL_law_11 rfl ?_
  obtain ⟨T, k, E2, hz⟩ := fr_b2 hz
  have hkB : fh_kq T1 0 12 = true := hkB
  refine fl_cD (rest := [.ref (gb1.2.2 0)]) CB hN J (k_X12_init CB.2.2 hokB hkB E2) Y_X12_init rfl YI_X12_init Lk_RL_77 rfl hl.1 ⟨Nat.le_of_ble_eq_true rfl, Nat.le_of_ble_eq_true rfl⟩ rfl (Nat.le_of_ble_eq_true rfl) ⟨by show _ ≤ 601024; omega, by show _ ≤ 7293034; omega⟩ dL_law_12 (fun gb2 H locs egb2 CB J => ?_)
  have q2 := egb2.2.2.2.1 0 (fh_kq_lt hkB)
  refine W.eq (g2 := F0 m 15 ls [.ref (gb2.2.2 0)]) (by simp only [q2]) ?_
  refine lv_astore_n (lv' := [(2, .ref (gb2.2.2 0)), (1, .ref (g2.2.2 0)), (0, .ref b)]) hx hbb dL_law_15 rfl hl (by decide) rfl (fun ls hl => ?_)
  have J := J.swap
  obtain ⟨hkS, hz⟩ := fr_ck hz
  obtain ⟨hkT, hz⟩ := fr_ck hz
  have hg2 : gb2.1 = g2.1 := (egb2.2.1.trans egb.2.1).trans hg.symm
  refine lv_iconst (v := 1) hx hbb dL_law_16 (by decide) ?_
  refine fl_newj (n := 1) (N := 1) C CB.2.2 hg2 J hok Ai_long (by decide) rfl (by decide) (by show _ ≤ 601024; omega) (by show _ ≤ 7293034; omega) dL_law_17 (fun S3 h3 g3 H eS eh eg3 C J hko => ?_)
  have hz := fr_let eS hz
  have hz := fr_let eh hz
  have q3 := eg3.2.2.2.1 0 (fh_kq_lt hkS)
  have hl : lv_has ls 8 [(2, .ref (gb2.2.2 0)), (1, .ref (g3.2.2 0)), (0, .ref b)] := by rw [q3]; exact hl
  refine lv_astore_n (lv' := [(3, .ref (g3.2.2 S.1)), (2, .ref (gb2.2.2 0)), (1, .ref (g3.2.2 0)), (0, .ref b)]) hx hbb dL_law_19 rfl hl (by decide) rfl (fun ls hl => ?_)
  refine lv_iconst (v := 0) hx hbb dL_law_20 (by decide) ?_
  refine lv_istore (lv' := [(4, .int 0), (3, .ref (g3.2.2 S.1)), (2, .ref (gb2.2.2 0)), (1, .ref (g3.2.2 0)), (0, .ref b)]) hx hbb dL_law_21 hl (by decide) rfl (fun ls hl => ?_)
  have F : fl_C p l s m c b L xs z S3 g3 T gb2 0 0 := ⟨C, CB, hE _ (fun a ha y => by
      rcases y with ⟨i, hi, rfl⟩ | y
      · have := J.2.2.2.1 i hi; omega
      · omega), hE _ (fun a ha y => by
      rcases y with ⟨i, hi, rfl⟩ | y
      · have := J.2.2.2.2.1 i hi; omega
      · omega), hLN, hX, hbl, hlt, fn_kq eS hkS, hkT⟩
  refine w_law_loop F (fun H locs ls cells slots hS hc hs => ?_) 513 h3 k 0 _ _ _ _ _ hz J (by omega) (by omega) (lv_sub hl [4, 3, 2, 1, 0] rfl)
  refine lv_iconst (v := 1) hx hbb dL_law_1928 (by decide) ?_
  refine W.widen (k := 601024) (n := 7293034) hc hs ?_
  refine va_forget hS.2.2 ?_
  exact lw_ret hx hb hr hlocks dL_law_1929
