/-! a row told in words: what comes of it -/
theorem tla_lt {w : Nat → Int32} {a g j : Nat} (h : j < a + g) : tla w a g j = w j := by
  unfold tla
  by_cases c : j < a
  · rw [if_pos c]
  · rw [if_neg c, Nat.mod_eq_of_lt (by omega)]; congr 1; omega
theorem tla_back {w : Nat → Int32} {a g j : Nat} (hg : 1 ≤ g) (h : a + g ≤ j) : tla w a g (j - g) = tla w a g j := by
  unfold tla
  rw [if_neg (by omega), if_neg (by omega), Nat.mod_eq_sub_mod (a := j - a) (b := g) (by omega)]
  congr 3; omega
section
variable {J J' : Nat → Nat → Int64} {R : Nat → Nat → Option Nat}
theorem a_tell77 {I : Nat → Nat → Int32} {m j K : Nat} {KK : fh_H → Nat → Int32 → Int32 → Option fh_H} (hR : RA R) (hm : mdA m) (hj : j < 60) : z_X7_tellTo_b77 SA 53 KK (I, J, R) m (nI K) (nI j) = KK (fh_up I (m + 1) j (I 54 j), J, R) m (nI K) (nI (j + 1)) := by
  obtain ⟨k1, k2, k3⟩ := mdA_k hm
  have i1 : fh_in (nI j) 60 = true := in_n (by omega) (by omega)
  have c1 : (nI j).toNatClampNeg = j := nI_clamp (by omega)
  unfold z_X7_tellTo_b77
  simp only [k1, ck_N, rA_md hR hm, b1_N, rA_53_1 hR, kA_54, lA_54, i1, k2, k3, c1, let_N, sI_N, nI_1]
theorem a_tell25 {w : Nat → Int32} {a g K m : Nat} (hR : RA R) (hm : mdA m) (hL : a + g ≤ 100) (hK : K ≤ 60) : ∀ (k fuel : Nat) (I : Nat → Nat → Int32) (j : Nat), k < fuel → j + k = K → I 53 3 = nI (a + g) → (K ≤ a + g ∨ (1 ≤ g ∧ I 53 2 = nI a)) → (∀ i, i < 60 → (i < j ∨ i < a + g) → I 54 i = tla w a g i) → (∀ i, i < j → I (m + 1) i = tla w a g i) →
    ∃ I1, z_X7_tellTo_b25 SA 53 fuel (I, J, R) m (nI K) (nI j) = some (I1, J, R) ∧ I1 m 7 = nI K ∧ (∀ i, i < K → I1 (m + 1) i = tla w a g i) ∧ ∀ b j, ¬ (b = m ∧ j = 7) → b ≠ m + 1 → b ≠ 54 → I1 b j = I b j := by
  have rg := md_rng hm
  obtain ⟨k1, k2, k3⟩ := mdA_k hm
  intro k
  induction k with
  | zero =>
    intro fuel I j hf hj h3 h2 h54 hm1
    obtain ⟨f, rfl⟩ : ∃ f, fuel = f + 1 := ⟨fuel - 1, by omega⟩
    refine ⟨fh_up I m 7 (nI K), ?_, up_s _ _ _ _, fun i hi => by rw [up_a _ _ _ _ (by omega)]; exact hm1 i (by omega), fun b j q _ _ => by simp only [fh_up, q, if_false]⟩
    rw [z_X7_tellTo_b25, if_pos (nI_le (by omega) (by omega)), k1, ck_N, let_N, sI_N]
  | succ k ih =>
    intro fuel I j hf hj h3 h2 h54 hm1
    obtain ⟨f, rfl⟩ : ∃ f, fuel = f + 1 := ⟨fuel - 1, by omega⟩
    have c0 : ¬ nI K ≤ nI j := nI_ge (by omega) (by omega)
    have c1 : ¬ Int32.ofNat 60 ≤ nI j := nI_ge (b := 60) (by omega) (by omega)
    have i1 : fh_in (nI j) 60 = true := in_n (by omega) (by omega)
    have l1 : (nI j).toNatClampNeg = j := nI_clamp (by omega)
    have next : ∀ I1 : Nat → Nat → Int32, (∀ b i, ¬ (b = 54 ∧ i = j) → I1 b i = I b i) → I1 54 j = tla w a g j → ∃ I2, z_X7_tellTo_b25 SA 53 f (fh_up I1 (m + 1) j (I1 54 j), J, R) m (nI K) (nI (j + 1)) = some (I2, J, R) ∧ I2 m 7 = nI K ∧ (∀ i, i < K → I2 (m + 1) i = tla w a g i) ∧ ∀ b i, ¬ (b = m ∧ i = 7) → b ≠ m + 1 → b ≠ 54 → I2 b i = I b i := fun I1 o1 v1 => by
      have o2 : ∀ b i, b ≠ m + 1 → fh_up I1 (m + 1) j (I1 54 j) b i = I1 b i := fun b i z => up_a _ _ _ _ z
      obtain ⟨I2, e, g1, g2, g3⟩ := ih f (fh_up I1 (m + 1) j (I1 54 j)) (j + 1) (by omega) (by omega) (by rw [o2 _ _ (by omega), o1 _ _ (by omega)]; exact h3) (by rw [o2 _ _ (by omega), o1 _ _ (by omega)]; exact h2) (fun i hi q => by
        rw [o2 _ _ (by omega)]
        by_cases ci : i = j
        · rw [ci]; exact v1
        · rw [o1 _ _ (by omega)]; exact h54 i hi (by omega)) (fun i hi => by
        by_cases ci : i = j
        · rw [ci, up_s]; exact v1
        · rw [up_k _ _ _ _ ci, o1 _ _ (by omega)]; exact hm1 i (by omega))
      exact ⟨I2, e, g1, g2, fun b i q1 q2 q3 => by rw [g3 b i q1 q2 q3, o2 _ _ q2, o1 _ _ (by omega)]⟩
    rw [z_X7_tellTo_b25, if_neg c0]
    simp only [rA_53_1 hR, b1_N, kA_54, ck_N, lA_54, c1, if_false, k1, rA_md hR hm, k2, k3, h3]
    by_cases c : j < a + g
    · rw [if_pos (nI_lt c (by omega)), a_tell77 hR hm (by omega)]
      exact next I (fun _ _ _ => rfl) (h54 j (by omega) (Or.inr c))
    · rw [if_neg (nI_nlt (by omega) (by omega))]
      obtain ⟨hg, ha⟩ : 1 ≤ g ∧ I 53 2 = nI a := h2.resolve_left (by omega)
      have e1 : nI j - (nI (a + g) - I 53 2) = nI (j - g) := by
        rw [ha, nI_subn (by omega), show a + g - a = g by omega, nI_subn (by omega)]
      have d0 : ¬ nI (j - g) < 0 := nI_pos (by omega)
      have d1 : ¬ Int32.ofNat 60 ≤ nI (j - g) := nI_ge (b := 60) (by omega) (by omega)
      have d2 : fh_in (nI (j - g)) 60 = true := in_n (by omega) (by omega)
      have d3 : (nI (j - g)).toNatClampNeg = j - g := nI_clamp (by omega)
      have eT : z_X7_earlierTerm SA (I, J, R) 53 (nI (j - g)) = some (tla w a g j) := by
        unfold z_X7_earlierTerm
        simp only [d0, if_false, rA_53_1 hR, b1_N, kA_54, ck_N, lA_54, d1, d2, d3]
        rw [h54 (j - g) (by omega) (by omega), tla_back hg (by omega)]
      rw [e1, eT, b1_N, i1, ck_N, l1, let_N, sI_N, a_tell77 hR hm (by omega)]
      exact next (fh_up I 54 j (tla w a g j)) (fun b i q => by simp only [fh_up, q, if_false]) (up_s _ _ _ _)
theorem a_tell {I : Nat → Nat → Int32} {w : Nat → Int32} {a g m : Nat} {o : Bool} (hR : RA R) (hm : mdA m) (hL : a + g ≤ 100) (h3 : I 53 3 = nI (a + g)) (h2 : I 53 2 = (if o then nI a else -1)) (ho : (o = true → 1 ≤ g) ∧ (o = false → g = 0)) (h54 : ∀ i, i < a + g → i < 60 → I 54 i = w i) :
    ∃ I1, z_X7_tellTo SA (I, J, R) 53 m = some (I1, J, R) ∧ I1 m 7 = nI (tln a g) ∧ (∀ i, i < tln a g → I1 (m + 1) i = tla w a g i) ∧ ∀ b j, ¬ (b = m ∧ j = 7) → b ≠ m + 1 → b ≠ 54 → I1 b j = I b j := by
  have h54' : ∀ i, i < 60 → (i < 0 ∨ i < a + g) → I 54 i = tla w a g i := fun i hi q => by
    rw [tla_lt (by omega)]; exact h54 i (by omega) hi
  unfold z_X7_tellTo
  cases o with
  | false =>
    have hg := ho.2 rfl
    subst hg
    have e2 : I 53 2 = -1 := h2
    have em : z_J9_min_7cf53 (nI (a + 0)) 60 = some (nI (tln a 0)) := by
      unfold z_J9_min_7cf53 tln
      rw [if_pos rfl]
      by_cases z : 60 < a
      · rw [if_pos (show (60 : Int32) < nI (a + 0) from nI_lt (a := 60) (by omega) (by omega)), show min a 60 = 60 by omega]; rfl
      · rw [if_neg (show ¬ (60 : Int32) < nI (a + 0) from nI_nlt (a := 60) (by omega) (by omega)), show min a 60 = a by omega]; rfl
    simp only [e2, if_true, h3, em, b1_N]
    have ht : tln a 0 = min a 60 := by unfold tln; rw [if_pos rfl]
    exact a_tell25 (w := w) hR hm hL (tln_le a 0) (tln a 0) 20000 I 0 (by omega) (by omega) h3 (Or.inl (by omega)) h54' (fun i hi => absurd hi (Nat.not_lt_zero _))
  | true =>
    have hg := ho.1 rfl
    have e2 : I 53 2 = nI a := h2
    have ne : ¬ nI a = -1 := fun e => by
      have := congrArg Int32.toInt e
      rw [nI_toInt (by omega)] at this
      have h1 : (-1 : Int32).toInt = -1 := rfl
      omega
    have ht : tln a g = 60 := by unfold tln; rw [if_neg (by omega)]
    simp only [e2, ne, if_false, ht]
    exact a_tell25 (w := w) hR hm hL (Nat.le_refl _) 60 20000 I 0 (by omega) (by omega) h3 (Or.inr ⟨hg, e2⟩) h54' (fun i hi => absurd hi (Nat.not_lt_zero _))
/-! the reference -/
def tf (w : Nat → Int32) (a g y : Nat) : Nat → Int32 := fun j => if j = 0 then 2 else if j = 7 then nI a else if j = 8 then nI g else if 9 ≤ j ∧ j < 9 + y then w (j - 9) else 0
theorem tf_k {w : Nat → Int32} {a g y : Nat} (hw : ∀ k, y ≤ k → w k = 0) (k : Nat) : tf w a g y (9 + k) = w k := by
  unfold tf
  rw [if_neg (by omega), if_neg (by omega), if_neg (by omega), show 9 + k - 9 = k by omega]
  by_cases c : k < y
  · rw [if_pos (by omega)]
  · rw [if_neg (by omega), hw k (by omega)]
theorem b_told78 {w : Nat → Int32} {a g n r : Nat} {P : Nat → Rcp} {I0 : Nat → Nat → Int32} (hr : r < 10) (hL : a + g ≤ 100) : ∀ (k fuel : Nat) (I : Nat → Nat → Int32) (y : Nat), k < fuel → y + k = a + g → I 0 45 = nI a → I 0 46 = nI g → (∀ j, j < a + g → I 17 j = w j) → midB I0 I n P r (tf w a g y) →
    ∃ I1, z_X12_told_b78 TB 0 fuel (I, J, rB) (nI r) (nI y) = fh_b1 (z_X12_layAll TB (I1, J, rB) 0) (fun h2 => some (((h2.1 0 45) + (h2.1 0 46)), h2)) ∧ midB I0 I1 n P r (tf w a g (a + g)) ∧ ∀ b j, b ≠ 1 → I1 b j = I b j := by
  intro k
  induction k with
  | zero =>
    intro fuel I y hf hy h45 h46 h17 hm
    obtain ⟨f, rfl⟩ : ∃ f, fuel = f + 1 := ⟨fuel - 1, by omega⟩
    have c : nI (a + g) ≤ nI y := nI_le (by omega) (by omega)
    obtain rfl : y = a + g := by omega
    refine ⟨I, ?_, hm, fun _ _ _ => rfl⟩
    rw [z_X12_told_b78]
    simp only [h45, h46, nI_add, c, if_true]
  | succ k ih =>
    intro fuel I y hf hy h45 h46 h17 hm
    obtain ⟨f, rfl⟩ : ∃ f, fuel = f + 1 := ⟨fuel - 1, by omega⟩
    have c : ¬ nI (a + g) ≤ nI y := nI_ge (by omega) (by omega)
    have i1 : fh_in (nI y) 100 = true := in_n (by omega) (by omega)
    have l1 : (nI y).toNatClampNeg = y := nI_clamp (by omega)
    have e9 : (9 : Int32) + nI y = nI (9 + y) := by rw [show (9 : Int32) = nI 9 from rfl, nI_add]
    have hm2 := midB_put (j0 := 9 + y) (v := w y) hr (by omega) hm
    have ef : (fun j => if j = 9 + y then w y else tf w a g y j) = tf w a g (y + 1) := by
      funext j
      unfold tf
      by_cases c1 : j = 9 + y
      · rw [if_pos c1, if_neg (by omega), if_neg (by omega), if_neg (by omega), if_pos (by omega), c1, show 9 + y - 9 = y by omega]
      · rw [if_neg c1]
        by_cases c2 : 9 ≤ j ∧ j < 9 + y
        · rw [if_pos c2, if_pos (show 9 ≤ j ∧ j < 9 + (y + 1) by omega)]
        · rw [if_neg c2, if_neg (show ¬ (9 ≤ j ∧ j < 9 + (y + 1)) by omega)]
    rw [ef] at hm2
    obtain ⟨I1, e, q1, q2⟩ := ih f (fh_up I 1 (109 * r + (9 + y)) (w y)) (y + 1) (by omega) (by omega) (by rw [up_a _ _ _ _ (by decide)]; exact h45) (by rw [up_a _ _ _ _ (by decide)]; exact h46) (fun j hj => by rw [up_a _ _ _ _ (by decide)]; exact h17 j hj) hm2
    refine ⟨I1, ?_, q1, fun b j q => by rw [q2 b j q, up_a _ _ _ _ q]⟩
    rw [z_X12_told_b78]
    simp only [h45, h46, nI_add, c, if_false, rB_34, b1_N, kB_N17, ck_N, lB_N17, i1, l1, e9, h17 y (by omega), b_put hr (show 9 + y < 109 by omega), let_N, nI_1]
    exact e
theorem b_chg2 {I I1 : Nat → Nat → Int32} {n : Nat} {P : Nat → Rcp} {t t' : Nat} {b b' : Nat → Nat} {fp fp' : Int32} {s s' : Nat} {c c' : Nat → Int32} {r : Nat} {f : Nat → Int32} (hr : r < 10) (ok : okP n P t b s) (h : invB I n P t' b' fp' s' c') (okf : okr f r) (hm : midB I I1 n P r f) (hT : tapB I1 t b fp) (hS : saiB I1 s c) :
    ∃ I' J', z_X12_layAll TB (I1, J, rB) 0 = some (I', J', rB) ∧ (∀ j, j < 15 ∨ 25 ≤ j → I' 0 j = I1 0 j) ∧ invB I' (nN n) (nP n P (nF (P n) r f)) t b fp s c := by
  obtain ⟨I4, J4, e4, o4, iB⟩ := b_chg (J := J) hr ok h okf hm hT hS
  have okF := (okP_n ok okf).1 (nN n) (Nat.le_refl _)
  rw [nP_top] at okF
  obtain ⟨I5, J5, e5, l5, -⟩ := b_layAll (J := J) (I := I1) okF (fun x hx j hj => by
    unfold nF
    by_cases c : x = r
    · rw [if_pos c, c]; exact hm.2.2.2 j hj
    · rw [if_neg c, hm.1 1 (109 * x + j) (by unfold kpB; omega) (by decide) (by omega) (by omega)]
      exact h.1.1 x hx j hj)
  have e : (I4, J4, rB) = (I5, J5, rB) := Option.some.inj (e4.symm.trans e5)
  have eI : I4 = I5 := congrArg Prod.fst e
  refine ⟨I4, J4, e4, fun j q => ?_, iB⟩
  rw [eI]; exact l5 0 j (by omega)
theorem b_opens {I' : Nat → Nat → Int32} {b : Nat → Nat} {n : Nat} (hb2 : ∀ i, b i < 256) (hn : n ≤ 200) (hb : ∀ i, i < n → I' 16 i = nI (b i)) : ∃ I1, z_X12_opens TB (I', J', rB) 0 (nI n) = some (I1, J', rB) ∧ psB I1 b n (0, 0, -1) ∧ I1 0 44 = 0 ∧ ∀ b j, ¬ (b = 0 ∧ 36 ≤ j ∧ j ≤ 44 ∧ j ≠ 43) → I1 b j = I' b j := by
  obtain ⟨I0, e0⟩ : ∃ z, z = fh_up (fh_up (fh_up (fh_up I' 0 36 (nI n)) 0 37 0) 0 41 0) 0 44 0 := ⟨_, rfl⟩
  have o0 : ∀ b j, ¬ (b = 0 ∧ (j = 36 ∨ j = 37 ∨ j = 41 ∨ j = 44)) → I0 b j = I' b j := fun b j q => by
    have z1 : ¬ (b = 0 ∧ j = 36) := fun z => q ⟨z.1, by omega⟩
    have z2 : ¬ (b = 0 ∧ j = 37) := fun z => q ⟨z.1, by omega⟩
    have z3 : ¬ (b = 0 ∧ j = 41) := fun z => q ⟨z.1, by omega⟩
    have z4 : ¬ (b = 0 ∧ j = 44) := fun z => q ⟨z.1, by omega⟩
    rw [e0]; simp only [fh_up, z1, z2, z3, z4, if_false]
  have h36 : I0 0 36 = nI n := by rw [e0, up_k _ _ _ _ (by decide), up_k _ _ _ _ (by decide), up_k _ _ _ _ (by decide), up_s]
  have h37 : I0 0 37 = nI 0 := by rw [e0, up_k _ _ _ _ (by decide), up_k _ _ _ _ (by decide), up_s]; rfl
  have h41 : I0 0 41 = 0 := by rw [e0, up_k _ _ _ _ (by decide), up_s]
  have h44 : I0 0 44 = 0 := by rw [e0, up_s]
  have hb0 : ∀ i, i < n → I0 16 i = nI (b i) := fun i hi => by rw [o0 _ _ (by omega)]; exact hb i hi
  obtain ⟨I1, e, q1, q2⟩ := b_step (J := J') (p := 0) hb2 hn (Nat.zero_le _) h36 hb0 h37
  refine ⟨I1, ?_, ⟨by rw [q2 _ _ (by omega)]; exact h36, fun i hi => by rw [q2 _ _ (by omega)]; exact hb0 i hi, by rw [q2 _ _ (by omega)]; exact h41, fun _ => q1, fun q => absurd rfl q⟩, by rw [q2 _ _ (by omega)]; exact h44, fun b j q => by rw [q2 _ _ (by omega), o0 _ _ (by omega)]⟩
  unfold z_X12_opens
  simp only [let_N, sI_N, ← e0, e, b1_N]
end
