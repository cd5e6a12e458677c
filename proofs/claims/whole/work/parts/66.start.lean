/-! THE LAW'S START: what the tables and the Statement give of it -/
def ts_t : List Nat := [77, 83, 85, 87, 89, 91, 93, 95, 97, 99]
def ts_m : List Nat := [518, 519, 516, 511, 497, 477, 483, 487, 489, 491]
def ts_T (i : Nat) : Term := .string RX10 (ts_t.getD i 0)
def ts_M (i : Nat) : Term := .string RX12 (ts_m.getD i 0)
def ts_F : List Cond := flatC (Jvm.Cond.and given_1 narrow_1)
set_option maxRecDepth 100000 in
theorem ts_1 : ∀ i, i < 10 → Cond.exactly (ts_T i) "java/lang/String" ∈ ts_F := by decide +kernel
set_option maxRecDepth 100000 in
theorem ts_2 : ∀ i, i < 10 → Cond.eq (.field (ts_T i) "java/lang/String" "coder" "B") (.int 0) ∈ ts_F := by decide +kernel
set_option maxRecDepth 100000 in
theorem ts_3 : ∀ i, i < 10 → Cond.arrayOf (.field (ts_T i) "java/lang/String" "value" "[B") .byte ∈ ts_F := by decide +kernel
set_option maxRecDepth 100000 in
theorem ts_4 : ∀ i, i < 10 → Cond.eq (.length (.field (ts_T i) "java/lang/String" "value" "[B")) (.int (Int32.ofNat (fs_n i))) ∈ ts_F := by decide +kernel
set_option maxRecDepth 100000 in
theorem ts_5 : ∀ i, i < 10 → ∀ j, j < fs_n i → Cond.eq (.elem (.field (ts_T i) "java/lang/String" "value" "[B") (.int (Int32.ofNat j))) (.int (fs_c i j)) ∈ ts_F := by decide +kernel
set_option maxRecDepth 100000 in
theorem ts_6 : ∀ i, i < 10 → Cond.eq (ts_T i) (ts_M i) ∈ ts_F := by decide +kernel
set_option maxRecDepth 100000 in
theorem ts_7 : ∀ q ∈ fs_m, Cond.exactly (.string RX11 q.1) "java/lang/String" ∈ ts_F := by decide +kernel
set_option maxRecDepth 100000 in
theorem ts_8 : ∀ q ∈ fs_m, Cond.stringRef RX11 q.1 q.2 ∈ tables_1 := by decide +kernel
set_option maxRecDepth 100000 in
theorem ts_9 : ∀ q ∈ fs_l, Cond.stringRef q.1 q.2.1 q.2.2.1 ∈ tables_1 := by decide +kernel
theorem ts_10 : ∀ q ∈ fs_l, q.2.2.2 < 10 ∧ (Term.string q.1 q.2.1 = ts_T q.2.2.2 ∨ Term.string q.1 q.2.1 = ts_M q.2.2.2) := by decide +kernel
theorem ts_11 : ∀ w ∈ fs_B, w ∈ lw_tbl := by decide +kernel
theorem ts_12 : ∀ i, i < 10 → fs_n i < 2 ^ 31 := by decide +kernel
section ST
variable {args : Array Value} {s : State}
theorem ts_tb {w : Cond} (i : Nat) (h : tables_1[i]? = some w) (hts : ∀ w ∈ lw_tbl, w.before args s = true) : w.before args s = true := hts w (List.mem_append_right _ (List.mem_of_getElem? h))
theorem ts_U (hts : ∀ w ∈ lw_tbl, w.before args s = true) : ∀ w ∈ fh_U, w.before args s = true := fun w hw => hts w (List.mem_filter.mp hw).1
theorem ts_one {own : String} {idx ci : Nat} (F : fn_K own idx ci) (hts : ∀ w ∈ fh_U, w.before args s = true) : ∃ r : ClassId × (Nat → Nat), ∀ q : vw_C, vwCl[ci]? = some q → u_Kn s q.1 q.2.1 q.2.2 r.1 r.2 := by
  obtain ⟨Cn, T, N, t0, h1, h2, h3, h4, h5, -⟩ := F
  obtain ⟨cC, iS, h⟩ := u_known hts h2 (hts _ h5)
  refine ⟨(cC, iS), fun q hq => ?_⟩
  cases h1.symm.trans hq
  exact h
theorem ts_K (hts : ∀ w ∈ lw_tbl, w.before args s = true) : ∃ (D : va_G) (cy : Nat → ClassId), ∀ ad : Nat → Nat, fh_K (D, cy, ad) s := by
  have hU := ts_U hts
  have h0 : ∀ c : Nat, ∃ r : ClassId × (Nat → Nat), ∀ q : vw_C, vwCl[c]? = some q → u_Kn s q.1 q.2.1 q.2.2 r.1 r.2 := fun c => by
    match c with
    | 0 => exact ts_one Kn_RX5_9 hU
    | 1 => exact ts_one Kn_RX11_22 hU
    | 2 => exact ts_one Kn_RX11_43 hU
    | 3 => exact ts_one Kn_RX6_21 hU
    | 4 => exact ts_one Kn_RX11_66 hU
    | 5 => exact ts_one Kn_RX11_29 hU
    | 6 => exact ts_one Kn_RX11_9 hU
    | 7 => exact ts_one Kn_RX11_57 hU
    | 8 => exact ts_one Kn_RX11_73 hU
    | 9 => exact ts_one Kn_RX11_36 hU
    | 10 => exact ts_one Kn_RX11_50 hU
    | 11 => exact ts_one Kn_RL_8 hU
    | 12 => exact ts_one Kn_RL_75 hU
    | n + 13 => exact ⟨(0, fun _ => 0), fun q hq => by
        have hn : vwCl[n + 13]? = none := List.getElem?_eq_none (show vwCl.length ≤ n + 13 from Nat.le_add_left 13 n)
        rw [hn] at hq; cases hq⟩
  obtain ⟨f, hf⟩ := Classical.axiomOfChoice h0
  obtain ⟨c1, k1, m1, a1, a2, a3⟩ := Cond.arrayClass_spec (hU _ Ai_int)
  obtain ⟨c2, k2, m2, b1, b2, b3⟩ := Cond.arrayClass_spec (hU _ Ai_long)
  obtain ⟨m3, c3, k3, d0, d1, d2, d3, d4⟩ := Cond.arrayOver_spec (ts_tb (w := .arrayOver (.object "TermRows$Made")) 134 (by decide +kernel) hts)
  obtain ⟨m4, c4, k4, e0, e1, e2, e3, e4⟩ := Cond.arrayOver_spec (ts_tb (w := .arrayOver (.object "TermRows$Row")) 34 (by decide +kernel) hts)
  refine ⟨(fun c => (f c).1, fun c => (f c).2), fun k => if k = 13 then c1 else if k = 14 then c2 else if k = 15 then c3 else c4, fun ad => ⟨⟨hf, fun k q hk => ?_⟩, ?_⟩⟩
  · match k, hk with
    | 0, hk => cases hk; exact ⟨fun N z => ⟨(fun k h => by cases h), k1, a2, m1, a3⟩, a1⟩
    | 1, hk => cases hk; exact ⟨fun N z => ⟨(fun k h => by cases h), k2, b2, m2, b3⟩, b1⟩
    | 2, hk => cases hk; exact ⟨fun N z => ⟨(fun k h => by cases h), k3, d2, m3, d3⟩, k3, m3, d2, d3, d0, d4⟩
    | 3, hk => cases hk; exact ⟨fun N z => ⟨(fun k h => by cases h), k4, e2, m4, e3⟩, k4, m4, e2, e3, e0, e4⟩
    | n + 4, hk => cases hk
  · exact ⟨va_Nw.of rfl (ts_tb 796 (by decide +kernel) hts), va_Nw.of rfl (ts_tb 988 (by decide +kernel) hts), va_Nw.of rfl (ts_tb 750 (by decide +kernel) hts)⟩
theorem ts_N (hts : ∀ w ∈ lw_tbl, w.before args s = true) : fc_N s :=
  ⟨va_Nw.of rfl (ts_tb 152 (by decide +kernel) hts), va_Nw.of rfl (ts_tb 215 (by decide +kernel) hts), va_Nw.of rfl (ts_tb 236 (by decide +kernel) hts), va_Nw.of rfl (ts_tb 263 (by decide +kernel) hts), va_Nw.of rfl (ts_tb 337 (by decide +kernel) hts), va_Nw.of rfl (ts_tb 135 (by decide +kernel) hts), va_Nw.of rfl (ts_tb 158 (by decide +kernel) hts), va_Nw.of rfl (ts_tb 42 (by decide +kernel) hts), va_AO.of (ts_tb 34 (by decide +kernel) hts), va_AO.of (ts_tb 134 (by decide +kernel) hts)⟩
theorem ts_eqR {t u : Term} {a : Nat} (h : (Cond.eq t u).before args s = true) (ht : t.eval args s none [] s = some (.ref a)) : u.eval args s none [] s = some (.ref a) := by
  cases hv : u.eval args s none [] s with
  | none => simp [Cond.before, Cond.holds, Cond.value, ht, hv] at h
  | some w =>
    cases w <;> simp [Cond.before, Cond.holds, Cond.value, ht, hv] at h
    rw [h]
theorem ts_E (hts : ∀ w ∈ lw_tbl, w.before args s = true) (hgv : (Jvm.Cond.and given_1 narrow_1).before args s = true) : ∃ z : (Nat → Nat) × (Nat → Nat), ∀ A : Nat → Prop, (∀ a : Nat, a < s.heap.size → ¬ A a) → fx_E z A s s.heap := by
  have hs : ∀ w ∈ ts_F, w.before args s = true := flat_of_before _ hgv
  have h0 : ∀ i : Nat, ∃ q : Nat × Nat, i < 10 → (ts_T i).eval args s none [] s = some (.ref q.1) ∧ ∀ A : Nat → Prop, (∀ a : Nat, a < s.heap.size → ¬ A a) → va_O "java/lang/String" q.1 A s s.heap ∧ va_OF "java/lang/String" "coder" "B" (.int 0) q.1 A s s.heap ∧ va_OF "java/lang/String" "value" "[B" (.ref q.2) q.1 A s s.heap ∧ va_T .byte q.2 (fs_n i) (fun j => .int (fs_c i j)) A s s.heap := by
    intro i
    by_cases hi : i < 10
    · obtain ⟨a, c, cA, kA, q1, q2, q3, q4, q5, q6, -⟩ := Cond.exactly_spec (args := args) (first := s) (o := none) (s := s) (idx := []) (t := ts_T i) (cls := "java/lang/String") (hs _ (ts_1 i hi))
      obtain ⟨t, ht, -⟩ := va_Tof (f := fun j => .int (fs_c i j)) (A := fun _ => False) (ts_12 i hi) (hs _ (ts_3 i hi)) (va_eqt (hs _ (ts_4 i hi))) (fun j hj => va_eqt (hs _ (ts_5 i hi j hj))) (fun _ _ h => h)
      refine ⟨(a, t), fun _ => ⟨q1, fun A hA => ?_⟩⟩
      obtain ⟨t', ht', hT⟩ := va_Tof (f := fun j => .int (fs_c i j)) (A := A) (ts_12 i hi) (hs _ (ts_3 i hi)) (va_eqt (hs _ (ts_4 i hi))) (fun j hj => va_eqt (hs _ (ts_5 i hi j hj))) hA
      cases ht.symm.trans ht'
      exact ⟨⟨cA, q3, q5, by rw [q6]; exact q2, hA a (Array.getElem?_eq_some_iff.mp q3).1⟩, vk_OFof q1 (va_eqt (hs _ (ts_2 i hi))) hA, vk_OFof q1 ht hA, hT⟩
    · exact ⟨(0, 0), fun h => absurd h hi⟩
  obtain ⟨ad, had⟩ := Classical.axiomOfChoice h0
  refine ⟨(fun i => (ad i).1, fun i => (ad i).2), fun A hA => ⟨fun i hi => (had i hi).2 A hA, ?_, ?_, ?_, ?_, fun q hq => ?_, fun q hq => ?_, fun w hw => ?_⟩⟩
  · exact va_Zof (ts_tb 588 (by decide +kernel) hts) (ts_tb 19 (by decide +kernel) hts) (va_eqi (hs _ (by decide +kernel))) hA
  · exact va_Zqof (ts_tb 604 (by decide +kernel) hts) (ts_tb 21 (by decide +kernel) hts) (hs _ (by decide +kernel)) hA
  · exact vx_Zqof (ts_tb 497 (by decide +kernel) hts) (ts_tb 15 (by decide +kernel) hts) (hs _ (by decide +kernel)) hA
  · exact vx_Zqof (ts_tb 499 (by decide +kernel) hts) (ts_tb 15 (by decide +kernel) hts) (hs _ (by decide +kernel)) hA
  · obtain ⟨hi, ht⟩ := ts_10 q hq
    have h1 := (had _ hi).1
    have hr : (Term.string q.1 q.2.1).eval args s none [] s = some (.ref (ad q.2.2.2).1) := by
      rcases ht with h | h
      · rw [h]; exact h1
      · rw [h]; exact ts_eqR (hs _ (ts_6 _ hi)) h1
    exact vk_R.of (hts _ (List.mem_append_right _ (ts_9 q hq))) hr
  · obtain ⟨a, c, cA, kA, q1, -⟩ := Cond.exactly_spec (args := args) (first := s) (o := none) (s := s) (idx := []) (t := .string RX11 q.1) (cls := "java/lang/String") (hs _ (ts_7 q hq))
    exact ⟨a, vk_R.of (hts _ (List.mem_append_right _ (ts_8 q hq))) q1⟩
  · obtain ⟨a, b, h⟩ := fs_Bc w hw
    have h9 := hts w (ts_11 w hw)
    rcases h with rfl | ⟨x, rfl⟩ <;> exact va_Nw.of rfl h9
theorem ts_L (hts : ∀ w ∈ lw_tbl, w.before args s = true) (hgv : (Jvm.Cond.and given_1 narrow_1).before args s = true) : fl_N s := by
  have hs : ∀ w ∈ ts_F, w.before args s = true := flat_of_before _ hgv
  exact ⟨va_Nw.of rfl (hts _ (by decide +kernel)), va_Nw.of rfl (hts _ (by decide +kernel)), va_Nc.of (hs (.not (.castable "java/lang/IllegalArgumentException" "java/util/NoSuchElementException")) (by decide +kernel))⟩
end ST
