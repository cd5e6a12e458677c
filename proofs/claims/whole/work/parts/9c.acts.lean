/-! the class: an act, an act undone -/
theorem and15 : ∀ k, k < 33 → nI k &&& 15 = nI (k % 16) := by decide +kernel
def nP (n : Nat) (P : Nat → Rcp) (F : Rcp) : Nat → Rcp := if n = 16 then (fun k => if k < 16 then P (k + 1) else F) else (fun k => if k ≤ n then P k else F)
def nN (n : Nat) : Nat := if n = 16 then 16 else n + 1
def nF (F : Rcp) (r : Nat) (f : Nat → Int32) : Rcp := fun x => if x = r then f else F x
theorem nP_top (n : Nat) (P : Nat → Rcp) (F : Rcp) : nP n P F (nN n) = F := by
  unfold nP nN
  by_cases c : n = 16
  · rw [if_pos c, if_pos c, if_neg (by omega)]
  · rw [if_neg c, if_neg c, if_neg (by omega)]
theorem nN_le {n : Nat} (h : n ≤ 16) : nN n ≤ 16 := by
  unfold nN; split <;> omega
theorem a_swap {I : Nat → Nat → Int32} {J : Nat → Nat → Int64} {R : Nat → Nat → Option Nat} (hR : RA R) {a slot m m' : Nat} (hs : slot < 16) (h10 : R 10 slot = some m') (h4 : R a 4 = some m) (hm : mdA m) : z_X1_swap SA (I, J, R) 8 a (nI slot) = some (I, J, fh_up (fh_up R 10 slot (some m)) a 4 (some m')) := by
  unfold z_X1_swap
  have c0 : ¬ nI slot < 0 := nI_pos (by omega)
  have c1 : nI slot < Int32.ofNat 16 := nI_lt (b := 16) hs (by omega)
  have hin : fh_in (nI slot) 16 = true := in_n hs (by omega)
  have hcl : (nI slot).toNatClampNeg = slot := nI_clamp (by omega)
  have k3 := (mdA_k hm).1
  simp (disch := omega) only [ck_N, b1_N, b2_N, let_N, nn_Ns, nn_Nn, sI_N, sJ_N, sR_N, kA_0, kA_1, kA_2, kA_3, kA_4, kA_5, kA_8, kA_9, kA_10, kA_43, kA_44, kA_45, kA_46, kA_47, kA_48, kA_49, kA_50, kA_51, kA_52, kA_53, kA_54, kA_55, kA_56, kA_57, kA_118, lA_1, lA_3, lA_4, lA_5, lA_9, lA_10, lA_49, lA_50, lA_51, lA_52, lA_54, lA_57, lA_118, rA_0_0 hR, rA_0_1 hR, rA_0_2 hR, rA_0_3 hR, rA_0_4 hR, rA_0_5 hR, rA_0_6 hR, rA_0_7 hR, rA_0_8 hR, rA_0_9 hR, rA_8_0 hR, rA_8_1 hR, rA_48_0 hR, rA_48_1 hR, rA_48_2 hR, rA_48_3 hR, rA_53_0 hR, rA_53_1 hR, rA_55_0 hR, rA_56_0 hR, Int32.reduceAdd, Int32.reduceSub, Int32.reduceMul, Int32.reduceLE, Int32.reduceLT, Int32.reduceToNatClampNeg, if_true, if_false, eq_self, up_s, up_a, up_k, ne_0_1, ne_0_2, ne_0_3, ne_0_4, ne_0_5, ne_0_6, ne_0_7, ne_1_0, ne_1_2, ne_1_3, ne_1_4, ne_1_5, ne_1_6, ne_1_7, ne_2_0, ne_2_1, ne_2_3, ne_2_4, ne_2_5, ne_2_6, ne_2_7, ne_3_0, ne_3_1, ne_3_2, ne_3_4, ne_3_5, ne_3_6, ne_3_7, ne_4_0, ne_4_1, ne_4_2, ne_4_3, ne_4_5, ne_4_6, ne_4_7, ne_5_0, ne_5_1, ne_5_2, ne_5_3, ne_5_4, ne_5_6, ne_5_7, ne_6_0, ne_6_1, ne_6_2, ne_6_3, ne_6_4, ne_6_5, ne_6_7, ne_7_0, ne_7_1, ne_7_2, ne_7_3, ne_7_4, ne_7_5, ne_7_6, ne_m_0, ne_0_m, ne_m_1, ne_1_m, ne_m_2, ne_2_m, ne_m_3, ne_3_m, ne_m_4, ne_4_m, ne_m_5, ne_5_m, ne_m_6, ne_6_m, ne_m_7, ne_7_m, c0, c1, hin, hcl, h10, h4, k3]
def keI (I : Nat → Nat → Int32) (o n : Nat) : Nat → Nat → Int32 := if n = 16 then fh_up I 8 2 (nI ((o + 1) % 16)) else fh_up I 8 3 (nI (n + 1))
theorem keI_o {I : Nat → Nat → Int32} {o n b : Nat} (j : Nat) (h : b ≠ 8) : keI I o n b j = I b j := by
  unfold keI
  split <;> rw [up_a _ _ _ _ h]
theorem a_keep58 {I : Nat → Nat → Int32} {J : Nat → Nat → Int64} {R : Nat → Nat → Option Nat} (hR : RA R) {r slot m m' : Nat} (hr : r < 10) (hs : slot < 16) (h10 : R 10 slot = some m') (h4 : R (58 + 6 * r) 4 = some m) (hm : mdA m) : z_X1_keep_b58 SA 8 (I, J, R) (58 + 6 * r) (nI slot) = some (I, J, fh_up (fh_up (fh_up R 9 slot (some (58 + 6 * r))) 10 slot (some m)) (58 + 6 * r) 4 (some m')) := by
  unfold z_X1_keep_b58
  have hin : fh_in (nI slot) 16 = true := in_n hs (by omega)
  have hcl : (nI slot).toNatClampNeg = slot := nI_clamp (by omega)
  have k6 := (rwA_k (rwA_r hr)).1
  have e := a_swap (I := I) (J := J) (a := 58 + 6 * r) (RA_9 hR slot (some (58 + 6 * r))) hs (by rw [up_a _ _ _ _ (by decide)]; exact h10) (by rw [up_a _ _ _ _ (by omega)]; exact h4) hm
  simp (disch := omega) only [ck_N, b1_N, b2_N, let_N, nn_Ns, nn_Nn, sI_N, sJ_N, sR_N, kA_0, kA_1, kA_2, kA_3, kA_4, kA_5, kA_8, kA_9, kA_10, kA_43, kA_44, kA_45, kA_46, kA_47, kA_48, kA_49, kA_50, kA_51, kA_52, kA_53, kA_54, kA_55, kA_56, kA_57, kA_118, lA_1, lA_3, lA_4, lA_5, lA_9, lA_10, lA_49, lA_50, lA_51, lA_52, lA_54, lA_57, lA_118, rA_0_0 hR, rA_0_1 hR, rA_0_2 hR, rA_0_3 hR, rA_0_4 hR, rA_0_5 hR, rA_0_6 hR, rA_0_7 hR, rA_0_8 hR, rA_0_9 hR, rA_8_0 hR, rA_8_1 hR, rA_48_0 hR, rA_48_1 hR, rA_48_2 hR, rA_48_3 hR, rA_53_0 hR, rA_53_1 hR, rA_55_0 hR, rA_56_0 hR, Int32.reduceAdd, Int32.reduceSub, Int32.reduceMul, Int32.reduceLE, Int32.reduceLT, Int32.reduceToNatClampNeg, if_true, if_false, eq_self, up_s, up_a, up_k, ne_0_1, ne_0_2, ne_0_3, ne_0_4, ne_0_5, ne_0_6, ne_0_7, ne_1_0, ne_1_2, ne_1_3, ne_1_4, ne_1_5, ne_1_6, ne_1_7, ne_2_0, ne_2_1, ne_2_3, ne_2_4, ne_2_5, ne_2_6, ne_2_7, ne_3_0, ne_3_1, ne_3_2, ne_3_4, ne_3_5, ne_3_6, ne_3_7, ne_4_0, ne_4_1, ne_4_2, ne_4_3, ne_4_5, ne_4_6, ne_4_7, ne_5_0, ne_5_1, ne_5_2, ne_5_3, ne_5_4, ne_5_6, ne_5_7, ne_6_0, ne_6_1, ne_6_2, ne_6_3, ne_6_4, ne_6_5, ne_6_7, ne_7_0, ne_7_1, ne_7_2, ne_7_3, ne_7_4, ne_7_5, ne_7_6, ne_m_0, ne_0_m, ne_m_1, ne_1_m, ne_m_2, ne_2_m, ne_m_3, ne_3_m, ne_m_4, ne_4_m, ne_m_5, ne_5_m, ne_m_6, ne_6_m, ne_m_7, ne_7_m, hin, hcl, k6, e]
theorem a_keep {I : Nat → Nat → Int32} {J : Nat → Nat → Int64} {R : Nat → Nat → Option Nat} (hR : RA R) {r o n m m' : Nat} (hr : r < 10) (ho : o < 16) (hn : n ≤ 16) (h2 : I 8 2 = nI o) (h3 : I 8 3 = nI n) (h10 : R 10 ((o + n) % 16) = some m') (h4 : R (58 + 6 * r) 4 = some m) (hm : mdA m) : z_X1_keep SA (I, J, R) 8 (58 + 6 * r) = some (keI I o n, J, fh_up (fh_up (fh_up R 9 ((o + n) % 16) (some (58 + 6 * r))) 10 ((o + n) % 16) (some m)) (58 + 6 * r) 4 (some m')) := by
  unfold z_X1_keep keI
  have s1 : nI o + nI n &&& 15 = nI ((o + n) % 16) := by rw [nI_add, and15 _ (by omega)]
  have s2 : nI (o + 1) &&& 15 = nI ((o + 1) % 16) := and15 _ (by omega)
  have hs : (o + n) % 16 < 16 := by omega
  have c1 : nI ((o + n) % 16) < Int32.ofNat 16 := nI_lt (b := 16) hs (by omega)
  simp only [let_N, h2, h3, s1, s2, sI_N, nI_1, rA_8_0 hR, b1_N, kA_9, ck_N, lA_9, c1, if_true]
  by_cases c : n = 16
  · have c' : nI n = 16 := by rw [c]; rfl
    rw [if_pos c', if_pos c]
    exact a_keep58 hR hr hs h10 h4 hm
  · have c' : ¬ nI n = 16 := fun e => c ((nI_eq (b := 16) (by omega) (by omega)).mp e)
    rw [if_neg c', if_neg c]
    exact a_keep58 hR hr hs h10 h4 hm
theorem vA_8 {I I' : Nat → Nat → Int32} {R : Nat → Nat → Option Nat} {F : Rcp} (hv : vA I R F) (e : ∀ b j, b ≠ 8 → I' b j = I b j) : vA I' R F := by
  intro r hr
  obtain ⟨m, h1, h2, h3, h4, h5, h6⟩ := hv r hr
  have := md_rng h2
  refine ⟨m, h1, h2, mk_cong h3 (fun j => e _ _ (by omega)) (fun j => e _ _ (by omega)), h4, by rw [e _ _ (by omega)]; exact h5, ?_⟩
  rcases h6 with ⟨g1, g2⟩ | g1
  · exact Or.inl ⟨by rw [e _ _ (by omega)]; exact g1, dA_cong g2 (fun c j q => e _ _ (by omega))⟩
  · exact Or.inr (by rw [e _ _ (by omega)]; exact g1)
def tpos (slot r x : Nat) : Nat := if x = slot then 16 + r else if x = 16 + r then slot else x
theorem tpos_lt {slot r x : Nat} (hs : slot < 16) (hr : r < 10) (hx : x < 26) : tpos slot r x < 26 := by
  unfold tpos; split
  · omega
  · split <;> omega
theorem tpos_inj {slot r x y : Nat} (hs : slot < 16) (h : tpos slot r x = tpos slot r y) : x = y := by
  unfold tpos at h
  split at h <;> split at h <;> first | omega | (split at h <;> first | omega | (split at h <;> omega))
theorem tpos_s (slot r : Nat) : tpos slot r slot = 16 + r := if_pos rfl
theorem tpos_r {slot r : Nat} (hs : slot < 16) : tpos slot r (16 + r) = slot := by
  unfold tpos; rw [if_neg (by omega), if_pos rfl]
theorem tpos_o {slot r x : Nat} (h1 : x ≠ slot) (h2 : x ≠ 16 + r) : tpos slot r x = x := by
  unfold tpos; rw [if_neg h1, if_neg h2]
theorem hw_o {R R' : Nat → Nat → Option Nat} (h : hw R) (e : ∀ j, R' 43 j = R 43 j) : hw R' := by
  obtain ⟨u, w, h1, h2, h3⟩ := h
  exact ⟨u, w, h1, by rw [e]; exact h2, by rw [e]; exact h3⟩
theorem vA_5 {I : Nat → Nat → Int32} {R : Nat → Nat → Option Nat} {F : Rcp} (hv : vA I R F) {x : Nat} (hx : x < 10) : I (58 + 6 * x) 5 = 0 ∨ I (58 + 6 * x) 5 = 1 := by
  obtain ⟨m, -, -, -, -, -, h6⟩ := hv x hx
  exact h6.elim (fun q => Or.inl q.1) Or.inr
theorem a_act {I : Nat → Nat → Int32} {J : Nat → Nat → Int64} {R : Nat → Nat → Option Nat} {n : Nat} {P : Nat → Rcp} {t : Nat} {b : Nat → Nat} {fp : Int32} {s : Nat} {c : Nat → Int32} {r : Nat} (hr : r < 10) (hn : n ≤ 16) (okp : ∀ r, r < 10 → okr (P n r) r) (h : invA I R n P t b fp s c) :
    ∃ I2 R2 m', z_X11_act SA (I, J, R) 0 (58 + 6 * r) = some (some m', (I2, J, R2)) ∧ mdA m' ∧ RA R2 ∧ hw R2 ∧ (∀ b j, b ≠ 8 → b < 58 → I2 b j = I b j) ∧
      ∀ (I3 : Nat → Nat → Int32) (f : Nat → Int32), (∀ b j, b ≠ m' → b ≠ m' + 1 → kpA b j → I3 b j = I2 b j) → mkr f (I3 m') (I3 (m' + 1)) → okr f r → invA I3 R2 (nN n) (nP n P (nF (P n) r f)) t b fp s c := by
  obtain ⟨hR, hh, hv, ⟨μ, o, ho, h2, h3, h10, h4, hmd, hinj, hk⟩, ⟨t1, t2, t3⟩, s1, s2⟩ := h
  obtain ⟨slot, hsl⟩ : ∃ z, z = (o + n) % 16 := ⟨_, rfl⟩
  have hs : slot < 16 := by omega
  have eK := a_keep (J := J) hR hr ho hn h2 h3 (h10 ((o + n) % 16) (by omega)) (h4 r hr) (hmd _ (by omega))
  rw [← hsl] at eK
  obtain ⟨R2, eR2⟩ : ∃ z, z = fh_up (fh_up (fh_up R 9 slot (some (58 + 6 * r))) 10 slot (some (μ (16 + r)))) (58 + 6 * r) 4 (some (μ slot)) := ⟨_, rfl⟩
  rw [← eR2] at eK
  have hR2 : RA R2 := by rw [eR2]; exact RA_made (RA_10 (RA_9 hR _ _) _ _) (rwA_r hr) _
  have hh2 : hw R2 := hw_o hh (fun j => by rw [eR2, up_a _ _ _ _ (by omega), up_a _ _ _ _ (by omega), up_a _ _ _ _ (by omega)])
  have r4 : ∀ x, x < 10 → x ≠ r → R2 (58 + 6 * x) 4 = R (58 + 6 * x) 4 := fun x hx hne => by rw [eR2, up_a _ _ _ _ (by omega), up_a _ _ _ _ (by omega), up_a _ _ _ _ (by omega)]
  have r4r : R2 (58 + 6 * r) 4 = some (μ slot) := by rw [eR2, up_s]
  have hv1 : vA (keI I o n) R (P n) := vA_8 hv (fun b j hb => keI_o j hb)
  obtain ⟨I2, eM, g1, g2, g3, g4⟩ := a_mark (J := J) (F := P n) (I := keI I o n) hR2 hr (by
    obtain ⟨m, -, -, -, -, h5, -⟩ := hv1 r hr
    exact h5) (fun x a1 a2 => by
    obtain ⟨m, q1, q2, q3, -⟩ := hv1 x a2
    exact ⟨m, by rw [r4 x a2 (by omega)]; exact q1, q2, q3⟩) (fun x hx => vA_5 hv1 hx)
  have hm' : mdA (μ slot) := hmd _ (by omega)
  have rg' := md_rng hm'
  have out : ∀ b j, b ≠ 8 → b < 58 → I2 b j = I b j := fun b j h8 h58 => by rw [g1 _ _ (fun ⟨x', a1, a2, a3, a4⟩ => by omega), keI_o j h8]
  refine ⟨I2, R2, μ slot, ?_, hm', hR2, hh2, out, fun I3 f h5 hmk okf => ?_⟩
  · unfold z_X11_act
    simp (disch := omega) only [ck_N, b1_N, b2_N, let_N, nn_Ns, nn_Nn, sI_N, sJ_N, sR_N, kA_0, kA_1, kA_2, kA_3, kA_4, kA_5, kA_8, kA_9, kA_10, kA_43, kA_44, kA_45, kA_46, kA_47, kA_48, kA_49, kA_50, kA_51, kA_52, kA_53, kA_54, kA_55, kA_56, kA_57, kA_118, lA_1, lA_3, lA_4, lA_5, lA_9, lA_10, lA_49, lA_50, lA_51, lA_52, lA_54, lA_57, lA_118, rA_0_0 hR, rA_0_1 hR, rA_0_2 hR, rA_0_3 hR, rA_0_4 hR, rA_0_5 hR, rA_0_6 hR, rA_0_7 hR, rA_0_8 hR, rA_0_9 hR, rA_8_0 hR, rA_8_1 hR, rA_48_0 hR, rA_48_1 hR, rA_48_2 hR, rA_48_3 hR, rA_53_0 hR, rA_53_1 hR, rA_55_0 hR, rA_56_0 hR, Int32.reduceAdd, Int32.reduceSub, Int32.reduceMul, Int32.reduceLE, Int32.reduceLT, Int32.reduceToNatClampNeg, if_true, if_false, eq_self, up_s, up_a, up_k, ne_0_1, ne_0_2, ne_0_3, ne_0_4, ne_0_5, ne_0_6, ne_0_7, ne_1_0, ne_1_2, ne_1_3, ne_1_4, ne_1_5, ne_1_6, ne_1_7, ne_2_0, ne_2_1, ne_2_3, ne_2_4, ne_2_5, ne_2_6, ne_2_7, ne_3_0, ne_3_1, ne_3_2, ne_3_4, ne_3_5, ne_3_6, ne_3_7, ne_4_0, ne_4_1, ne_4_2, ne_4_3, ne_4_5, ne_4_6, ne_4_7, ne_5_0, ne_5_1, ne_5_2, ne_5_3, ne_5_4, ne_5_6, ne_5_7, ne_6_0, ne_6_1, ne_6_2, ne_6_3, ne_6_4, ne_6_5, ne_6_7, ne_7_0, ne_7_1, ne_7_2, ne_7_3, ne_7_4, ne_7_5, ne_7_6, ne_m_0, ne_0_m, ne_m_1, ne_1_m, ne_m_2, ne_2_m, ne_m_3, ne_3_m, ne_m_4, ne_4_m, ne_m_5, ne_5_m, ne_m_6, ne_6_m, ne_m_7, ne_7_m, eK, eM, r4r]
  have eF : nP n P (nF (P n) r f) (nN n) = nF (P n) r f := nP_top _ _ _
  have fr : nF (P n) r f r = f := if_pos rfl
  have fo : ∀ x, x ≠ r → nF (P n) r f x = P n x := fun x hx => if_neg hx
  refine ⟨hR2, hh2, ?_, ⟨fun x => μ (tpos slot r x), if n = 16 then (o + 1) % 16 else o, ?_, ?_, ?_, ?_, ?_, ?_, ?_, ?_⟩, ⟨?_, fun j hj => ?_, ?_⟩, ?_, fun j hj => ?_⟩
  · rw [eF]
    refine vA_turn hr hv1 g1 g2 g3 g4 r4 r4r hm' (fun x hx hne e => ?_) h5 (by rw [fr]; exact hmk) fo (fun x hx => ?_)
    · rw [h4 x hx] at e
      have := hinj _ _ (by omega) (by omega) (Option.some.inj e)
      omega
    · by_cases c : x = r
      · rw [c, fr]; exact okf
      · rw [fo x c]; exact okp x hx
  · split <;> omega
  · rw [h5 8 2 (by omega) (by omega) (by unfold kpA; omega), g1 _ _ (fun ⟨x', a1, a2, a3, a4⟩ => by omega)]
    unfold keI
    by_cases c : n = 16
    · rw [if_pos c, if_pos c, up_s]
    · rw [if_neg c, if_neg c, up_k _ _ _ _ (by decide)]; exact h2
  · rw [h5 8 3 (by omega) (by omega) (by unfold kpA; omega), g1 _ _ (fun ⟨x', a1, a2, a3, a4⟩ => by omega)]
    unfold keI nN
    by_cases c : n = 16
    · rw [if_pos c, if_pos c, up_k _ _ _ _ (by decide), h3, c]
    · rw [if_neg c, if_neg c, up_s]
  · intro x hx
    dsimp only
    rw [eR2, up_a _ _ _ _ (by omega)]
    by_cases c : x = slot
    · rw [c, up_s, tpos_s]
    · rw [up_k _ _ _ _ c, up_a _ _ _ _ (by decide), tpos_o c (by omega)]; exact h10 x hx
  · intro x hx
    dsimp only
    by_cases c : x = r
    · rw [c, r4r, tpos_r hs]
    · rw [r4 x hx c, tpos_o (by omega) (by omega)]; exact h4 x hx
  · exact fun x hx => hmd _ (tpos_lt hs hr hx)
  · exact fun x y hx hy e => tpos_inj hs (hinj _ _ (tpos_lt hs hr hx) (tpos_lt hs hr hy) e)
  · have same : ∀ m, mdA m → m ≠ μ slot → (∀ j, I3 m j = I m j) ∧ ∀ j, I3 (m + 1) j = I (m + 1) j := fun m hm hne => by
      have n1 := md_md hm hm'
      have n2 := md_md hm' hm
      have rg := md_rng hm
      exact ⟨fun j => by rw [h5 _ _ hne n1 (by unfold kpA; omega), g1 _ _ (fun ⟨x', a1, a2, a3, a4⟩ => by omega), keI_o j (by omega)], fun j => by rw [h5 _ _ (by omega) (by omega) (by unfold kpA; omega), g1 _ _ (fun ⟨x', a1, a2, a3, a4⟩ => by omega), keI_o j (by omega)]⟩
    have old : ∀ k0, k0 < n → (o + k0) % 16 ≠ slot → ∃ q, q < 10 ∧ R2 9 ((o + k0) % 16) = some (58 + 6 * q) ∧ mkr (P k0 q) (I3 (μ (tpos slot r ((o + k0) % 16)))) (I3 (μ (tpos slot r ((o + k0) % 16)) + 1)) ∧ ∀ r', r' ≠ q → P k0 r' = P (k0 + 1) r' := fun k0 hk0 hne => by
      obtain ⟨q, a1, a2, a3, a4⟩ := hk k0 hk0
      have e := same (μ ((o + k0) % 16)) (hmd _ (by omega)) (fun e => hne (hinj _ _ (by omega) (by omega) e))
      rw [tpos_o hne (by omega)]
      exact ⟨q, a1, by rw [eR2, up_a _ _ _ _ (by omega), up_a _ _ _ _ (by decide), up_k _ _ _ _ hne]; exact a2, mk_cong a3 e.1 e.2, a4⟩
    have new : R2 9 slot = some (58 + 6 * r) ∧ mkr (P n r) (I3 (μ (tpos slot r slot))) (I3 (μ (tpos slot r slot) + 1)) := by
      rw [tpos_s]
      obtain ⟨m, q1, q2, q3, -⟩ := hv r hr
      rw [h4 r hr] at q1
      obtain rfl := Option.some.inj q1
      have e := same (μ (16 + r)) q2 (fun e => by have := hinj _ _ (by omega) (by omega) e; omega)
      exact ⟨by rw [eR2, up_a _ _ _ _ (by omega), up_a _ _ _ _ (by decide), up_s], mk_cong q3 e.1 e.2⟩
    intro k hk'
    dsimp only
    by_cases c : n = 16
    · rw [nN, if_pos c] at hk'
      rw [if_pos c]
      unfold nP
      rw [if_pos c]
      rw [if_pos hk']
      by_cases c2 : k = 15
      · subst c2
        rw [show ((o + 1) % 16 + 15) % 16 = slot by omega]
        refine ⟨r, hr, new.1, by have := new.2; rw [c] at this; exact this, fun r' hr' => ?_⟩
        rw [if_neg (by omega), fo r' hr', c]
      · rw [show ((o + 1) % 16 + k) % 16 = (o + (k + 1)) % 16 by omega, if_pos (show k + 1 < 16 by omega)]
        exact old (k + 1) (by omega) (by omega)
    · rw [nN, if_neg c] at hk'
      rw [if_neg c]
      unfold nP
      rw [if_neg c]
      rw [if_pos (show k ≤ n by omega)]
      by_cases c2 : k = n
      · subst c2
        rw [← hsl]
        refine ⟨r, hr, new.1, new.2, fun r' hr' => ?_⟩
        rw [if_neg (by omega), fo r' hr']
      · rw [if_pos (show k + 1 ≤ n by omega)]
        exact old k (by omega) (by omega)
  · rw [h5 48 6 (by omega) (by omega) (by unfold kpA; omega), out 48 6 (by omega) (by omega)]; exact t1
  · rw [h5 49 j (by omega) (by omega) (by unfold kpA; omega), out 49 j (by omega) (by omega)]; exact t2 j hj
  · rw [h5 48 8 (by omega) (by omega) (by unfold kpA; omega), out 48 8 (by omega) (by omega)]; exact t3
  · rw [h5 56 1 (by omega) (by omega) (by unfold kpA; omega), out 56 1 (by omega) (by omega)]; exact s1
  · rw [h5 57 j (by omega) (by omega) (by unfold kpA; omega), out 57 j (by omega) (by omega)]; exact s2 j hj
theorem a_undo0 {I : Nat → Nat → Int32} {J : Nat → Nat → Int64} {R : Nat → Nat → Option Nat} (hR : RA R) (h3 : I 8 3 = nI 0) : z_X11_undo SA (I, J, R) 0 = some (-1, (I, J, R)) := by
  unfold z_X11_undo z_X1_takeBack
  have c0 : ¬ (0 : Int32) < nI 0 := by decide
  simp (disch := omega) only [ck_N, b1_N, b2_N, let_N, nn_Ns, nn_Nn, sI_N, sJ_N, sR_N, kA_0, kA_1, kA_2, kA_3, kA_4, kA_5, kA_8, kA_9, kA_10, kA_43, kA_44, kA_45, kA_46, kA_47, kA_48, kA_49, kA_50, kA_51, kA_52, kA_53, kA_54, kA_55, kA_56, kA_57, kA_118, lA_1, lA_3, lA_4, lA_5, lA_9, lA_10, lA_49, lA_50, lA_51, lA_52, lA_54, lA_57, lA_118, rA_0_0 hR, rA_0_1 hR, rA_0_2 hR, rA_0_3 hR, rA_0_4 hR, rA_0_5 hR, rA_0_6 hR, rA_0_7 hR, rA_0_8 hR, rA_0_9 hR, rA_8_0 hR, rA_8_1 hR, rA_48_0 hR, rA_48_1 hR, rA_48_2 hR, rA_48_3 hR, rA_53_0 hR, rA_53_1 hR, rA_55_0 hR, rA_56_0 hR, Int32.reduceAdd, Int32.reduceSub, Int32.reduceMul, Int32.reduceLE, Int32.reduceLT, Int32.reduceToNatClampNeg, if_true, if_false, eq_self, up_s, up_a, up_k, ne_0_1, ne_0_2, ne_0_3, ne_0_4, ne_0_5, ne_0_6, ne_0_7, ne_1_0, ne_1_2, ne_1_3, ne_1_4, ne_1_5, ne_1_6, ne_1_7, ne_2_0, ne_2_1, ne_2_3, ne_2_4, ne_2_5, ne_2_6, ne_2_7, ne_3_0, ne_3_1, ne_3_2, ne_3_4, ne_3_5, ne_3_6, ne_3_7, ne_4_0, ne_4_1, ne_4_2, ne_4_3, ne_4_5, ne_4_6, ne_4_7, ne_5_0, ne_5_1, ne_5_2, ne_5_3, ne_5_4, ne_5_6, ne_5_7, ne_6_0, ne_6_1, ne_6_2, ne_6_3, ne_6_4, ne_6_5, ne_6_7, ne_7_0, ne_7_1, ne_7_2, ne_7_3, ne_7_4, ne_7_5, ne_7_6, ne_m_0, ne_0_m, ne_m_1, ne_1_m, ne_m_2, ne_2_m, ne_m_3, ne_3_m, ne_m_4, ne_4_m, ne_m_5, ne_5_m, ne_m_6, ne_6_m, ne_m_7, ne_7_m, h3, c0]
theorem a_undo {I : Nat → Nat → Int32} {J : Nat → Nat → Int64} {R : Nat → Nat → Option Nat} {n : Nat} {P : Nat → Rcp} {t : Nat} {b : Nat → Nat} {fp : Int32} {s : Nat} {c : Nat → Int32} (hn : n ≤ 16) (hn0 : 0 < n) (okp : ∀ r, r < 10 → okr (P (n - 1) r) r) (h : invA I R n P t b fp s c) :
    ∃ I2 R2, z_X11_undo SA (I, J, R) 0 = some (nI (n - 1), (I2, J, R2)) ∧ invA I2 R2 (n - 1) P t b fp s c := by
  obtain ⟨hR, hh, hv, ⟨μ, o, ho, h2, h3, h10, h4, hmd, hinj, hk⟩, ⟨t1, t2, t3⟩, s1, s2⟩ := h
  obtain ⟨slot, hsl⟩ : ∃ z, z = (o + (n - 1)) % 16 := ⟨_, rfl⟩
  have hs : slot < 16 := by omega
  obtain ⟨r, hr, k9, kmk, kP⟩ := hk (n - 1) (by omega)
  rw [← hsl] at k9 kmk
  rw [show n - 1 + 1 = n by omega] at kP
  obtain ⟨R2, eR2⟩ : ∃ z, z = fh_up (fh_up R 10 slot (some (μ (16 + r)))) (58 + 6 * r) 4 (some (μ slot)) := ⟨_, rfl⟩
  obtain ⟨I1, eI1⟩ : ∃ z, z = fh_up I 8 3 (nI (n - 1)) := ⟨_, rfl⟩
  have eS := a_swap (I := I1) (J := J) hR hs (h10 slot hs) (h4 r hr) (hmd _ (by omega))
  rw [← eR2] at eS
  have hR2 : RA R2 := by rw [eR2]; exact RA_made (RA_10 hR _ _) (rwA_r hr) _
  have hh2 : hw R2 := hw_o hh (fun j => by rw [eR2, up_a _ _ _ _ (by omega), up_a _ _ _ _ (by omega)])
  have r4 : ∀ x, x < 10 → x ≠ r → R2 (58 + 6 * x) 4 = R (58 + 6 * x) 4 := fun x hx hne => by rw [eR2, up_a _ _ _ _ (by omega), up_a _ _ _ _ (by omega)]
  have r4r : R2 (58 + 6 * r) 4 = some (μ slot) := by rw [eR2, up_s]
  have o8 : ∀ b j, b ≠ 8 → I1 b j = I b j := fun b j hb => by rw [eI1, up_a _ _ _ _ hb]
  have hv1 : vA I1 R (P n) := vA_8 hv o8
  obtain ⟨I2, eM, g1, g2, g3, g4⟩ := a_mark (J := J) (F := P n) (I := I1) hR2 hr (by
    obtain ⟨m, -, -, -, -, h5, -⟩ := hv1 r hr
    exact h5) (fun x a1 a2 => by
    obtain ⟨m, q1, q2, q3, -⟩ := hv1 x a2
    exact ⟨m, by rw [r4 x a2 (by omega)]; exact q1, q2, q3⟩) (fun x hx => vA_5 hv1 hx)
  have hm' : mdA (μ slot) := hmd _ (by omega)
  have out : ∀ b j, b ≠ 8 → b < 58 → I2 b j = I b j := fun b j h8 h58 => by rw [g1 _ _ (fun ⟨x', a1, a2, a3, a4⟩ => by omega), o8 _ _ h8]
  have o83 : I2 8 3 = nI (n - 1) := by rw [g1 _ _ (fun ⟨x', a1, a2, a3, a4⟩ => by omega), eI1, up_s]
  have same : ∀ m, mdA m → (∀ j, I2 m j = I m j) ∧ ∀ j, I2 (m + 1) j = I (m + 1) j := fun m hm => by
    have rg := md_rng hm
    exact ⟨fun j => by rw [g1 _ _ (fun ⟨x', a1, a2, a3, a4⟩ => by omega), o8 _ _ (by omega)], fun j => by rw [g1 _ _ (fun ⟨x', a1, a2, a3, a4⟩ => by omega), o8 _ _ (by omega)]⟩
  refine ⟨I2, R2, ?_, hR2, hh2, ?_, ⟨fun x => μ (tpos slot r x), o, ho, ?_, o83, ?_, ?_, ?_, ?_, ?_⟩, ⟨?_, fun j hj => ?_, ?_⟩, ?_, fun j hj => ?_⟩
  · unfold z_X11_undo z_X1_takeBack z_X1_takeBack_b51
    have c0 : (0 : Int32) < nI n := nI_lt (a := 0) hn0 (by omega)
    have c1 : nI n - 1 = nI (n - 1) := by
      obtain ⟨q, rfl⟩ : ∃ q, n = q + 1 := ⟨n - 1, by omega⟩
      rw [nI_pred]; rfl
    have v2 : I1 8 2 = nI o := by rw [eI1, up_k _ _ _ _ (by decide)]; exact h2
    have v3 : I1 8 3 = nI (n - 1) := by rw [eI1, up_s]
    have s1 : nI o + nI (n - 1) &&& 15 = nI slot := by rw [nI_add, and15 _ (by omega), hsl]
    have hin : fh_in (nI slot) 16 = true := in_n hs (by omega)
    have hcl : (nI slot).toNatClampNeg = slot := nI_clamp (by omega)
    have k6 := (rwA_k (rwA_r hr)).1
    have c9 : ¬ Int32.ofNat 16 ≤ nI slot := nI_ge (b := 16) hs (by omega)
    simp only [rA_0_2 hR, b1_N, kA_8, ck_N, h3, c0, c9, if_true, if_false, let_N, sI_N, c1, ← eI1, v2, v3, s1, rA_8_0 hR, kA_9, lA_9, hin, hcl, k9, nn_Ns, k6, eS, b2_N, eM, rA_0_2 hR2, o83]
  · exact vA_turn hr hv1 g1 g2 g3 g4 r4 r4r hm' (fun x hx hne e => by
      rw [h4 x hx] at e
      have := hinj _ _ (by omega) (by omega) (Option.some.inj e)
      omega) (fun _ _ _ _ _ => rfl) (mk_cong kmk (same _ hm').1 (same _ hm').2) kP okp
  · rw [g1 _ _ (fun ⟨x', a1, a2, a3, a4⟩ => by omega), eI1, up_k _ _ _ _ (by decide)]; exact h2
  · intro x hx
    dsimp only
    rw [eR2, up_a _ _ _ _ (by omega)]
    by_cases c : x = slot
    · rw [c, up_s, tpos_s]
    · rw [up_k _ _ _ _ c, tpos_o c (by omega)]; exact h10 x hx
  · intro x hx
    dsimp only
    by_cases c : x = r
    · rw [c, r4r, tpos_r hs]
    · rw [r4 x hx c, tpos_o (by omega) (by omega)]; exact h4 x hx
  · exact fun x hx => hmd _ (tpos_lt hs hr hx)
  · exact fun x y hx hy e => tpos_inj hs (hinj _ _ (tpos_lt hs hr hx) (tpos_lt hs hr hy) e)
  · intro k hk'
    dsimp only
    obtain ⟨q, a1, a2, a3, a4⟩ := hk k (by omega)
    have hne : (o + k) % 16 ≠ slot := by omega
    have e := same (μ ((o + k) % 16)) (hmd _ (by omega))
    rw [tpos_o hne (by omega)]
    exact ⟨q, a1, by rw [eR2, up_a _ _ _ _ (by omega), up_a _ _ _ _ (by decide)]; exact a2, mk_cong a3 e.1 e.2, a4⟩
  · rw [out 48 6 (by omega) (by omega)]; exact t1
  · rw [out 49 j (by omega) (by omega)]; exact t2 j hj
  · rw [out 48 8 (by omega) (by omega)]; exact t3
  · rw [out 56 1 (by omega) (by omega)]; exact s1
  · rw [out 57 j (by omega) (by omega)]; exact s2 j hj
