/-! convergents -/
theorem k012 (k : Nat) : k = 0 ∨ k = 1 ∨ ∃ q, k = q + 2 := match k with
  | 0 => Or.inl rfl
  | 1 => Or.inr (Or.inl rfl)
  | q + 2 => Or.inr (Or.inr ⟨q, rfl⟩)
def lad (g : Nat → Int32) : Nat → Int64 × Int64 × Int64 × Int64
  | 0 => (1, 0, 0, 1)
  | k + 1 => ((lad g k).1 * (g k).toInt64 + (lad g k).2.2.1, (lad g k).2.1 * (g k).toInt64 + (lad g k).2.2.2, (lad g k).1, (lad g k).2.1)
def ldB (g : Nat → Int32) : Nat → Bool
  | 0 => false
  | k + 1 => ldB g k || (bey (lad g k).1 (g k).toInt64 (lad g k).2.2.1 || bey (lad g k).2.1 (g k).toInt64 (lad g k).2.2.2)
theorem i32_64r (x : Int32) : -9000000000000000000 ≤ x.toInt64.toInt ∧ x.toInt64.toInt ≤ 9000000000000000000 := by
  rw [Int32.toInt_toInt64]
  have := x.toInt_lt
  have := x.le_toInt
  omega
theorem ldB_f {g : Nat → Int32} {k : Nat} (h : ldB g (k + 1) = false) : ldB g k = false ∧ bey (lad g k).1 (g k).toInt64 (lad g k).2.2.1 = false ∧ bey (lad g k).2.1 (g k).toInt64 (lad g k).2.2.2 = false := by
  rw [ldB, Bool.or_eq_false_iff, Bool.or_eq_false_iff] at h
  exact ⟨h.1, h.2.1, h.2.2⟩
theorem ldB_mono {g : Nat → Int32} {k : Nat} (h : ldB g k = true) : ∀ m, ldB g (k + m) = true := by
  intro m
  induction m with
  | zero => exact h
  | succ m ih => rw [← Nat.add_assoc, ldB, ih, Bool.true_or]
theorem ldB_le {g : Nat → Int32} {k m : Nat} (hm : m ≤ k) (h : ldB g k = false) : ldB g m = false := by
  cases c : ldB g m with
  | false => rfl
  | true =>
    have := ldB_mono c (k - m)
    rw [show m + (k - m) = k by omega, h] at this
    exact this.symm
theorem lad_bd (g : Nat → Int32) : ∀ k, ldB g k = false → bd (lad g k).1 ∧ bd (lad g k).2.1 ∧ bd (lad g k).2.2.1 ∧ bd (lad g k).2.2.2 := by
  intro k
  induction k with
  | zero =>
    intro _
    have b1 : bd 1 := ⟨by decide, by decide⟩
    have b0 : bd 0 := ⟨by decide, by decide⟩
    exact ⟨b1, b0, b0, b1⟩
  | succ k ih =>
    intro h
    obtain ⟨h0, h1, h2⟩ := ldB_f h
    obtain ⟨a1, a2, a3, a4⟩ := ih h0
    exact ⟨(bey_ok (i32_64r _) a3 h1).2, (bey_ok (i32_64r _) a4 h2).2, a1, a2⟩
def ldA (I : Nat → Nat → Int32) (J : Nat → Nat → Int64) (g : Nat → Int32) (k : Nat) : Prop := (ldB g k = true ∧ I 47 4 = 1) ∨ (ldB g k = false ∧ I 47 4 = 0 ∧ J 47 0 = (lad g k).1 ∧ J 47 1 = (lad g k).2.1 ∧ J 47 2 = (lad g k).2.2.1 ∧ J 47 3 = (lad g k).2.2.2)
theorem a_one {I : Nat → Nat → Int32} {J : Nat → Nat → Int64} {R : Nat → Nat → Option Nat} {a b a' b' : Int64} {x : Int32} (h4 : I 47 4 = 0) (h0 : J 47 0 = a) (h1 : J 47 1 = b) (h2 : J 47 2 = a') (h3 : J 47 3 = b') : ∃ J' : Nat → Nat → Int64, (∀ u v : Int64, u = (if bey a x.toInt64 a' = true then 1000000000000001 else a * x.toInt64 + a') → v = (if bey b x.toInt64 b' = true then 1000000000000001 else b * x.toInt64 + b') → z_X2_climbOne SA (I, J, R) 47 x = (if u = 1000000000000001 then some (fh_up I 47 4 1, J', R) else if v = 1000000000000001 then some (fh_up I 47 4 1, J', R) else some (fh_up I 47 4 0, J', R)) ∧ J' 47 0 = u ∧ J' 47 1 = v) ∧ J' 47 2 = a ∧ J' 47 3 = b := by
  refine ⟨fh_up (fh_up (fh_up (fh_up J 47 2 a) 47 3 b) 47 0 (if bey a x.toInt64 a' = true then 1000000000000001 else a * x.toInt64 + a')) 47 1 (if bey b x.toInt64 b' = true then 1000000000000001 else b * x.toInt64 + b'), fun u v hu hv => ⟨?_, ?_, ?_⟩, ?_, ?_⟩
  · have s1 : fh_up J 47 2 a 47 1 = b := by rw [up_k _ _ _ _ (by decide)]; exact h1
    have s2 : ∀ (f : Nat → Nat → Int64) (p q : Int64), fh_up (fh_up f 47 0 p) 47 1 q 47 0 = p := fun f p q => by rw [up_k _ _ _ _ (by decide), up_s]
    have s3 : ∀ (f : Nat → Nat → Int64) (p q : Int64), fh_up (fh_up f 47 0 p) 47 1 q 47 1 = q := fun f p q => up_s _ _ _ _
    unfold z_X2_climbOne
    simp only [h4, if_true, h0, h1, h2, h3, a_grown, b1_N, let_N, sJ_N, s1, s2, s3, sI_N, ← hu, ← hv]
  · rw [up_k _ _ _ _ (by decide), up_s, hu]
  · rw [up_s, hv]
  · rw [up_k _ _ _ _ (by decide), up_k _ _ _ _ (by decide), up_k _ _ _ _ (by decide), up_s]
  · rw [up_k _ _ _ _ (by decide), up_k _ _ _ _ (by decide), up_s]
theorem up47 {I : Nat → Nat → Int32} {v : Int32} : ∀ b j, ¬ (b = 47 ∧ j = 4) → fh_up I 47 4 v b j = I b j := fun b j q => by simp only [fh_up, q, if_false]
theorem a_climb1 {I : Nat → Nat → Int32} {J : Nat → Nat → Int64} {R : Nat → Nat → Option Nat} {g : Nat → Int32} {k : Nat} (h : ldA I J g k) : ∃ I' J', z_X2_climbOne SA (I, J, R) 47 (g k) = some (I', J', R) ∧ ldA I' J' g (k + 1) ∧ ∀ b j, ¬ (b = 47 ∧ j = 4) → I' b j = I b j := by
  rcases h with ⟨hb, h4⟩ | ⟨hb, h4, h0, h1, h2, h3⟩
  · refine ⟨I, J, ?_, Or.inl ⟨ldB_mono hb 1, h4⟩, fun _ _ _ => rfl⟩
    unfold z_X2_climbOne
    simp only [h4, one0, if_false]
  · obtain ⟨J', hJ, j2, j3⟩ := a_one (R := R) (x := g k) h4 h0 h1 h2 h3
    obtain ⟨e, j0, j1⟩ := hJ _ _ rfl rfl
    obtain ⟨d1, d2, d3, d4⟩ := lad_bd g k hb
    by_cases c1 : bey (lad g k).1 (g k).toInt64 (lad g k).2.2.1 = true
    · refine ⟨fh_up I 47 4 1, J', ?_, Or.inl ⟨by rw [ldB, c1, Bool.true_or, Bool.or_true], up_s _ _ _ _⟩, up47⟩
      rw [e, if_pos (by rw [if_pos c1])]
    · have c1' := Bool.eq_false_iff.mpr c1
      have n1 := bd_ne (bey_ok (i32_64r (g k)) d3 c1').2
      by_cases c2 : bey (lad g k).2.1 (g k).toInt64 (lad g k).2.2.2 = true
      · refine ⟨fh_up I 47 4 1, J', ?_, Or.inl ⟨by rw [ldB, c2, Bool.or_true, Bool.or_true], up_s _ _ _ _⟩, up47⟩
        rw [e, if_neg (by rw [if_neg c1]; exact n1), if_pos (by rw [if_pos c2])]
      · have c2' := Bool.eq_false_iff.mpr c2
        have n2 := bd_ne (bey_ok (i32_64r (g k)) d4 c2').2
        refine ⟨fh_up I 47 4 0, J', ?_, Or.inr ⟨by rw [ldB, hb, c1', c2']; rfl, up_s _ _ _ _, ?_, ?_, j2, j3⟩, up47⟩
        · rw [e, if_neg (by rw [if_neg c1]; exact n1), if_neg (by rw [if_neg c2]; exact n2)]
        · rw [j0, if_neg c1]; rfl
        · rw [j1, if_neg c2]; rfl
theorem a_start2 {I : Nat → Nat → Int32} {J : Nat → Nat → Int64} {R : Nat → Nat → Option Nat} {g : Nat → Int32} : ∃ J', z_X2_start SA (I, J, R) 47 = some (fh_up I 47 4 0, J', R) ∧ ldA (fh_up I 47 4 0) J' g 0 := by
  refine ⟨fh_up (fh_up (fh_up (fh_up J 47 0 1) 47 1 0) 47 2 0) 47 3 1, rfl, Or.inr ⟨rfl, up_s _ _ _ _, ?_, ?_, ?_, up_s _ _ _ _⟩⟩
  · rw [up_k _ _ _ _ (by decide), up_k _ _ _ _ (by decide), up_k _ _ _ _ (by decide), up_s]; rfl
  · rw [up_k _ _ _ _ (by decide), up_k _ _ _ _ (by decide), up_s]; rfl
  · rw [up_k _ _ _ _ (by decide), up_s]; rfl
theorem rw47 {a : Nat} (h : rwA a) : a ≠ 47 ∧ a + 1 ≠ 47 := by
  rcases h with rfl | ⟨r, hr, rfl⟩ <;> omega
theorem a_climb6 {R : Nat → Nat → Option Nat} {g : Nat → Int32} {a K : Nat} (hR : RA R) (ha : rwA a) (hK : K < 60) : ∀ (m fuel : Nat) (I : Nat → Nat → Int32) (J : Nat → Nat → Int64) (k : Nat), m < fuel → k + m = K + 1 → (∀ j, j ≤ K → I (a + 1) j = g j) → ldA I J g k →
    ∃ I' J', z_X2_climb_b6 SA 47 fuel (I, J, R) a (nI K) (nI k) = some (I', J', R) ∧ ldA I' J' g (K + 1) ∧ ∀ b j, ¬ (b = 47 ∧ j = 4) → I' b j = I b j := by
  have n47 := rw47 ha
  intro m
  induction m with
  | zero =>
    intro fuel I J k hf hm hg h
    obtain ⟨f, rfl⟩ : ∃ f, fuel = f + 1 := ⟨fuel - 1, by omega⟩
    obtain rfl : k = K + 1 := by omega
    exact ⟨I, J, by rw [z_X2_climb_b6, if_pos (nI_lt (by omega) (by omega))], h, fun _ _ _ => rfl⟩
  | succ m ih =>
    intro fuel I J k hf hm hg h
    obtain ⟨f, rfl⟩ : ∃ f, fuel = f + 1 := ⟨fuel - 1, by omega⟩
    obtain ⟨I1, J1, e1, h1, o1⟩ := a_climb1 (R := R) h
    obtain ⟨I2, J2, e2, h2, o2⟩ := ih f I1 J1 (k + 1) (by omega) (by omega) (fun j hj => by rw [o1 _ _ (by omega)]; exact hg j hj) h1
    refine ⟨I2, J2, ?_, h2, fun b j q => (o2 b j q).trans (o1 b j q)⟩
    rw [z_X2_climb_b6, if_neg (nI_nlt (by omega) (by omega)), if_neg (show ¬ (60 : Int32) ≤ nI k from nI_ge (b := 60) (by omega) (by omega)), (rwA_k ha).1, ck_N, a_tm hR ha (show k < 60 by omega), b1_N, hg k (by omega), e1, b1_N, let_N, nI_1]
    exact e2
theorem a_climb {I : Nat → Nat → Int32} {J : Nat → Nat → Int64} {R : Nat → Nat → Option Nat} {g : Nat → Int32} {a K : Nat} (hR : RA R) (ha : rwA a) (hK : K < 60) (hg : ∀ j, j ≤ K → I (a + 1) j = g j) : ∃ I' J', z_X2_climb SA (I, J, R) 47 a (nI K) = some (I', J', R) ∧ ldA I' J' g (K + 1) ∧ ∀ b j, ¬ (b = 47 ∧ j = 4) → I' b j = I b j := by
  obtain ⟨J1, e1, h1⟩ := a_start2 (I := I) (J := J) (R := R) (g := g)
  have n47 := rw47 ha
  obtain ⟨I2, J2, e2, h2, o2⟩ := a_climb6 hR ha hK (K + 1) 20000 (fh_up I 47 4 0) J1 0 (by omega) (by omega) (fun j hj => by rw [up47 _ _ (by omega)]; exact hg j hj) h1
  refine ⟨I2, J2, ?_, h2, fun b j q => (o2 b j q).trans (up47 b j q)⟩
  unfold z_X2_climb
  rw [e1, b1_N]
  exact e2
/-! the reference's convergents -/
def cvB (J : Nat → Nat → Int64) (g : Nat → Int32) (c : Nat) : Prop := ∀ j, j < c → J 13 j = (lad g (j + 1)).1 ∧ J 14 j = (lad g (j + 1)).2.1
theorem b_cv51 {I : Nat → Nat → Int32} {J : Nat → Nat → Int64} {P : Rcp} {r f k : Nat} (hr : r < 10) (hk : k < rwL P r) (h : rwB3 I P r) (h16 : I 0 16 = 0) (hJ : cvB J (rwG P r) k) :
    z_X12_layConvergents_b12 TB 0 (f + 1) (I, J, rB) (nI r) (nI k) = z_X12_layConvergents_b83 TB 0 (z_X12_layConvergents_b12 TB 0 f) (I, J, rB) (nI r) (nI k) (lad (rwG P r) k).2.2.1 (rwG P r k).toInt64 (lad (rwG P r) k).1 0 (nI k) (some 13) := by
  have hL := rwL_le P r
  have i1 : fh_in (nI r) 10 = true := in_n hr (by omega)
  have k1 : (nI r).toNatClampNeg = r := nI_clamp (by omega)
  have c0 : ¬ nI (rwL P r) ≤ nI k := nI_ge hk (by omega)
  have tm := b_termOf (I := I) (J := J) hr (show k < 60 by omega)
  rw [h.2.1 k hk] at tm
  rw [z_X12_layConvergents_b12]
  unfold z_X12_layConvergents_b51
  rcases k012 k with rfl | rfl | ⟨q, rfl⟩
  · simp only [rB_5, b1_N, kB_N4, ck_N, lB_N4, i1, k1, h.1, c0, if_false, h16, if_true, rB_26, nn_Ns, nI_0, tm]
    rw [nI_0] at tm c0
    simp only [c0, if_false, if_true, tm, b1_N]
    rfl
  · have z1 : ¬ nI 1 = 0 := by decide
    have z2 : nI 1 = 1 := rfl
    have z3 : nI 1 - 1 = nI 0 := by decide
    have i2 : fh_in (nI 0) 60 = true := by decide
    have k2 : (nI 0).toNatClampNeg = 0 := by decide
    have e := (hJ 0 (by omega)).1
    have one1 : ¬ (1 : Int32) = 0 := by decide
    have y1 : (1 : Int32) - 1 = 0 := by decide
    have i3 : fh_in (0 : Int32) 60 = true := by decide
    have k3 : (0 : Int32).toNatClampNeg = 0 := by decide
    rw [z2] at tm c0 ⊢
    simp only [rB_5, b1_N, kB_N4, ck_N, lB_N4, i1, k1, h.1, c0, if_false, h16, if_true, rB_26, nn_Ns, one1, kB_N13, lB_N13, y1, i3, k3, e, tm]
    rfl
  · have z1 : ¬ nI (q + 2) = 0 := nI_ne0 (by omega) (by omega)
    have z2 : ¬ nI (q + 2) = 1 := fun e => by
      have := (nI_eq (b := 1) (by omega) (by omega)).mp e
      omega
    have z3 : nI (q + 2) - 1 = nI (q + 1) := nI_subn (b := 1) (by omega)
    have z4 : nI (q + 2) - 2 = nI q := nI_subn (b := 2) (by omega)
    have i2 : fh_in (nI (q + 1)) 60 = true := in_n (by omega) (by omega)
    have k2 : (nI (q + 1)).toNatClampNeg = q + 1 := nI_clamp (by omega)
    have i3 : fh_in (nI q) 60 = true := in_n (by omega) (by omega)
    have k3 : (nI q).toNatClampNeg = q := nI_clamp (by omega)
    have e := (hJ (q + 1) (by omega)).1
    have e2 := (hJ q (by omega)).1
    simp only [rB_5, b1_N, kB_N4, ck_N, lB_N4, i1, k1, h.1, c0, if_false, h16, if_true, rB_26, nn_Ns, z1, z2, z3, z4, kB_N13, lB_N13, i2, k2, i3, k3, e, e2, tm]
    rfl
theorem b_cv109 {I : Nat → Nat → Int32} {J : Nat → Nat → Int64} {P : Rcp} {r k : Nat} {KK : fh_H → Int32 → Int32 → Option fh_H} {by0 : Bool} (hr : r < 10) (hk : k < rwL P r) (h : rwB3 I P r) (h16 : I 0 16 = bI false) (hd : bd (lad (rwG P r) k).1) (hJ : ∀ j, j < k → J 14 j = (lad (rwG P r) (j + 1)).2.1) :
    ∃ v, (bey (lad (rwG P r) k).1 (rwG P r k).toInt64 (lad (rwG P r) k).2.2.1 = false → v = (lad (rwG P r) (k + 1)).1) ∧ z_X12_layConvergents_b83 TB 0 KK (I, J, rB) (nI r) (nI k) (lad (rwG P r) k).2.2.1 (rwG P r k).toInt64 (lad (rwG P r) k).1 0 (nI k) (some 13) = z_X12_layConvergents_b141 TB 0 KK (fh_up I 0 16 (bI (bey (lad (rwG P r) k).1 (rwG P r k).toInt64 (lad (rwG P r) k).2.2.1)), fh_up J 13 k v, rB) (nI r) (nI k) (lad (rwG P r) k).2.2.2 (rwG P r k).toInt64 (lad (rwG P r) k).2.1 0 (nI k) (some 14) := by
  have hL := rwL_le P r
  obtain ⟨v, e, hv⟩ := b_times (I := I) (J := J) (n := (rwG P r k).toInt64) (b := (lad (rwG P r) k).2.2.1) hd h16
  rw [Bool.false_or] at e
  refine ⟨v, fun q => by rw [hv q]; rfl, ?_⟩
  have tm := b_termOf (I := fh_up I 0 16 (bI (bey (lad (rwG P r) k).1 (rwG P r k).toInt64 (lad (rwG P r) k).2.2.1))) (J := fh_up J 13 k v) hr (show k < 60 by omega)
  rw [up_a _ _ _ _ (by decide), h.2.1 k hk] at tm
  have ik : fh_in (nI k) 60 = true := in_n (by omega) (by omega)
  have kk : (nI k).toNatClampNeg = k := nI_clamp (by omega)
  unfold z_X12_layConvergents_b83 z_X12_layConvergents_b109
  rcases k012 k with rfl | rfl | ⟨q, rfl⟩
  · rw [nI_0] at tm ik kk ⊢
    simp only [nn_Ns, kB_N0, ck_N, e, b2_N, kB_N13, lB_N13, ik, let_N, sJ_N, kk, rB_27, if_true, tm, b1_N]
    rfl
  · have z2 : nI 1 = 1 := rfl
    have one1 : ¬ (1 : Int32) = 0 := by decide
    have y1 : (1 : Int32) - 1 = 0 := by decide
    have i3 : fh_in (0 : Int32) 60 = true := by decide
    have k3 : (0 : Int32).toNatClampNeg = 0 := by decide
    have e0 : fh_up J 13 1 v 14 0 = (lad (rwG P r) 1).2.1 := by rw [up_a _ _ _ _ (by decide)]; exact hJ 0 (by omega)
    rw [z2] at tm ik kk ⊢
    simp only [nn_Ns, kB_N0, ck_N, e, b2_N, kB_N13, lB_N13, ik, let_N, sJ_N, kk, rB_27, one1, if_false, if_true, kB_N14, lB_N14, y1, i3, k3, e0, tm, b1_N]
    rfl
  · have z1 : ¬ nI (q + 2) = 0 := nI_ne0 (by omega) (by omega)
    have z2 : ¬ nI (q + 2) = 1 := fun e => by
      have := (nI_eq (b := 1) (by omega) (by omega)).mp e
      omega
    have z3 : nI (q + 2) - 1 = nI (q + 1) := nI_subn (b := 1) (by omega)
    have z4 : nI (q + 2) - 2 = nI q := nI_subn (b := 2) (by omega)
    have i2 : fh_in (nI (q + 1)) 60 = true := in_n (by omega) (by omega)
    have k2 : (nI (q + 1)).toNatClampNeg = q + 1 := nI_clamp (by omega)
    have i3 : fh_in (nI q) 60 = true := in_n (by omega) (by omega)
    have k3 : (nI q).toNatClampNeg = q := nI_clamp (by omega)
    have e0 : fh_up J 13 (q + 2) v 14 (q + 1) = (lad (rwG P r) (q + 2)).2.1 := by rw [up_a _ _ _ _ (by decide)]; exact hJ (q + 1) (by omega)
    have e1 : fh_up J 13 (q + 2) v 14 q = (lad (rwG P r) (q + 1)).2.1 := by rw [up_a _ _ _ _ (by decide)]; exact hJ q (by omega)
    simp only [nn_Ns, kB_N0, ck_N, e, b2_N, kB_N13, lB_N13, ik, let_N, sJ_N, kk, rB_27, z1, z2, z3, z4, if_false, kB_N14, lB_N14, i2, k2, i3, k3, e0, e1, tm, b1_N]
    rfl
def oF (I I' : Nat → Nat → Int32) : Prop := ∀ b j, ¬ (b = 0 ∧ (j = 16 ∨ j = 28)) → I' b j = I b j
theorem oF.trans {I I1 I2 : Nat → Nat → Int32} (h : oF I I1) (h2 : oF I1 I2) : oF I I2 := fun b j q => (h2 b j q).trans (h b j q)
theorem oF_rw {I I' : Nat → Nat → Int32} {P : Rcp} {r : Nat} (h : rwB3 I P r) (o : oF I I') : rwB3 I' P r := ⟨by rw [o _ _ (by omega)]; exact h.1, fun j hj => by rw [o _ _ (by omega)]; exact h.2.1 j hj, by rw [o _ _ (by omega)]; exact h.2.2⟩
theorem b_cv12 {P : Rcp} {r : Nat} (hr : r < 10) : ∀ (m fuel : Nat) (I : Nat → Nat → Int32) (J : Nat → Nat → Int64) (k : Nat), m + 1 < fuel → k + m = rwL P r → rwB3 I P r → I 0 16 = 0 → I 0 28 = nI k → cvB J (rwG P r) k → ldB (rwG P r) k = false →
    ∃ I' J' c, z_X12_layConvergents_b12 TB 0 fuel (I, J, rB) (nI r) (nI k) = some (I', J', rB) ∧ oF I I' ∧ c ≤ rwL P r ∧ I' 0 28 = nI c ∧ cvB J' (rwG P r) c ∧ ldB (rwG P r) c = false ∧ (c < rwL P r → ldB (rwG P r) (c + 1) = true) := by
  have hL := rwL_le P r
  have i1 : fh_in (nI r) 10 = true := in_n hr (by omega)
  have k1 : (nI r).toNatClampNeg = r := nI_clamp (by omega)
  have stop : ∀ (f : Nat) (I : Nat → Nat → Int32) (J : Nat → Nat → Int64) (k : Nat), k ≤ 60 → rwB3 I P r → (rwL P r ≤ k ∨ I 0 16 = 1) → z_X12_layConvergents_b12 TB 0 (f + 1) (I, J, rB) (nI r) (nI k) = some (I, J, rB) := fun f I J k hk h q => by
    rw [z_X12_layConvergents_b12]
    by_cases c : nI (rwL P r) ≤ nI k
    · simp only [rB_5, b1_N, kB_N4, ck_N, lB_N4, i1, k1, h.1, c, if_true]
    · rcases q with q | q
      · exact absurd (nI_le q (by omega)) c
      · simp only [rB_5, b1_N, kB_N4, ck_N, lB_N4, i1, k1, h.1, c, if_false, q, one0]
  intro m
  induction m with
  | zero =>
    intro fuel I J k hf hm h h16 h28 hJ hb
    obtain ⟨f, rfl⟩ : ∃ f, fuel = f + 1 := ⟨fuel - 1, by omega⟩
    exact ⟨I, J, k, stop f I J k (by omega) h (Or.inl (by omega)), fun _ _ _ => rfl, by omega, h28, hJ, hb, fun q => by omega⟩
  | succ m ih =>
    intro fuel I J k hf hm h h16 h28 hJ hb
    obtain ⟨f, rfl⟩ : ∃ f, fuel = f + 1 := ⟨fuel - 1, by omega⟩
    obtain ⟨f', rfl⟩ : ∃ f', f = f' + 1 := ⟨f - 1, by omega⟩
    have hk : k < rwL P r := by omega
    obtain ⟨d1, d2, d3, d4⟩ := lad_bd _ k hb
    obtain ⟨v, hv, e1⟩ := b_cv109 (J := J) (KK := z_X12_layConvergents_b12 TB 0 (f' + 1)) (by0 := false) hr hk h h16 d1 (fun j hj => (hJ j hj).2)
    generalize hc1 : bey (lad (rwG P r) k).1 (rwG P r k).toInt64 (lad (rwG P r) k).2.2.1 = c1 at *
    obtain ⟨w, e2, hw⟩ := b_times (I := fh_up I 0 16 (bI c1)) (J := fh_up J 13 k v) (n := (rwG P r k).toInt64) (b := (lad (rwG P r) k).2.2.2) (by0 := c1) d2 (up_s _ _ _ _)
    generalize hc2 : bey (lad (rwG P r) k).2.1 (rwG P r k).toInt64 (lad (rwG P r) k).2.2.2 = c2 at *
    have hb1 : ldB (rwG P r) (k + 1) = (c1 || c2) := by rw [ldB, hb, hc1, hc2, Bool.false_or]
    have ik : fh_in (nI k) 60 = true := in_n (by omega) (by omega)
    have kk : (nI k).toNatClampNeg = k := nI_clamp (by omega)
    have u16 : fh_up (fh_up I 0 16 (bI c1)) 0 16 (bI (c1 || c2)) 0 16 = bI (c1 || c2) := up_s _ _ _ _
    have u28 : fh_up (fh_up I 0 16 (bI c1)) 0 16 (bI (c1 || c2)) 0 28 = nI k := by rw [up_k _ _ _ _ (by decide), up_k _ _ _ _ (by decide)]; exact h28
    rw [b_cv51 hr hk h h16 hJ, e1]
    unfold z_X12_layConvergents_b141
    simp only [nn_Ns, kB_N0, ck_N, e2, b2_N, kB_N14, lB_N14, ik, let_N, sJ_N, kk, u16, u28, sI_N]
    have oo : ∀ v : Int32, oF I (fh_up (fh_up (fh_up I 0 16 (bI c1)) 0 16 (bI (c1 || c2))) 0 28 v) := fun v b j q => by
      have q1 : ¬ (b = 0 ∧ j = 16) := fun z => q ⟨z.1, Or.inl z.2⟩
      have q2 : ¬ (b = 0 ∧ j = 28) := fun z => q ⟨z.1, Or.inr z.2⟩
      simp only [fh_up, q1, q2, if_false]
    cases hcc : (c1 || c2) with
    | false =>
      rw [hcc] at hb1
      obtain ⟨q1, q2⟩ := Bool.or_eq_false_iff.mp hcc
      subst q1 q2
      rw [if_pos (show bI false = 0 from rfl), nI_1]
      obtain ⟨I', J', c, e, o, g⟩ := ih (f' + 1) (fh_up (fh_up (fh_up I 0 16 (bI false)) 0 16 (bI false)) 0 28 (nI (k + 1))) (fh_up (fh_up J 13 k v) 14 k w) (k + 1) (by omega) (by omega) (oF_rw h (by have := oo (nI (k + 1)); rw [hcc] at this; exact this)) (by rw [up_k _ _ _ _ (by decide), up_s]; rfl) (up_s _ _ _ _) (fun j hj => by
        by_cases cj : j = k
        · subst cj
          rw [up_a _ _ _ _ (by decide), up_s, up_s]
          exact ⟨hv rfl, by rw [hw rfl]; rfl⟩
        · rw [up_a _ _ _ _ (by decide), up_k _ _ _ _ cj, up_k _ _ _ _ cj, up_a _ _ _ _ (by decide)]
          exact hJ j (by omega)) hb1
      exact ⟨I', J', c, e, (by have := oo (nI (k + 1)); rw [hcc] at this; exact this : oF I _).trans o, g⟩
    | true =>
      rw [hcc] at hb1
      rw [if_neg (show ¬ bI true = 0 by decide), nI_1, Int32.add_zero]
      refine ⟨_, _, k, stop f' _ _ (k + 1) (by omega) (oF_rw h (by have := oo (nI k); rw [hcc] at this; exact this)) (Or.inr (by rw [up_k _ _ _ _ (by decide), up_s]; rfl)), (by have := oo (nI k); rw [hcc] at this; exact this), by omega, up_s _ _ _ _, fun j hj => ?_, hb, fun _ => hb1⟩
      rw [up_a _ _ _ _ (by decide), up_k _ _ _ _ (by omega), up_k _ _ _ _ (by omega), up_a _ _ _ _ (by decide)]
      exact hJ j hj
theorem b_cv {I : Nat → Nat → Int32} {J : Nat → Nat → Int64} {P : Rcp} {r : Nat} (hr : r < 10) (h : rwB3 I P r) : ∃ I' J' c, z_X12_layConvergents TB (I, J, rB) 0 (nI r) = some (I', J', rB) ∧ oF I I' ∧ c ≤ rwL P r ∧ I' 0 28 = nI c ∧ cvB J' (rwG P r) c ∧ ldB (rwG P r) c = false ∧ (c < rwL P r → ldB (rwG P r) (c + 1) = true) := by
  have hL := rwL_le P r
  have oo : oF I (fh_up (fh_up I 0 28 0) 0 16 0) := fun b j q => by
    have q1 : ¬ (b = 0 ∧ j = 16) := fun z => q ⟨z.1, Or.inl z.2⟩
    have q2 : ¬ (b = 0 ∧ j = 28) := fun z => q ⟨z.1, Or.inr z.2⟩
    simp only [fh_up, q1, q2, if_false]
  obtain ⟨I', J', c, e, o, g⟩ := b_cv12 hr (rwL P r) 20000 (fh_up (fh_up I 0 28 0) 0 16 0) J 0 (by omega) (by omega) (oF_rw h oo) (up_s _ _ _ _) (by rw [up_k _ _ _ _ (by decide), up_s]; rfl) (fun j hj => absurd hj (Nat.not_lt_zero _)) rfl
  exact ⟨I', J', c, e, oo.trans o, g⟩
