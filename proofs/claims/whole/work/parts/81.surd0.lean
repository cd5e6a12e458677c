/-! a root's first state -/
theorem sq_desc {t d a : Nat} (ha : 0 < a) (h : t * t = d * (a * a)) : ∃ u, d = u * u := by
  obtain ⟨g, hg⟩ : ∃ g, g = Nat.gcd t a := ⟨_, rfl⟩
  have hgp : 0 < g := by rw [hg]; exact Nat.gcd_pos_of_pos_right _ ha
  obtain ⟨t', ht⟩ : g ∣ t := by rw [hg]; exact Nat.gcd_dvd_left _ _
  obtain ⟨a', ha'⟩ : g ∣ a := by rw [hg]; exact Nat.gcd_dvd_right _ _
  have hco : Nat.gcd t' a' = 1 := by
    have e : g * Nat.gcd t' a' = g := by rw [← Nat.gcd_mul_left, ← ht, ← ha', ← hg]
    exact Nat.eq_of_mul_eq_mul_left hgp (by rw [e, Nat.mul_one])
  have h2 : t' * t' = d * (a' * a') := by
    have e : (g * g) * (t' * t') = (g * g) * (d * (a' * a')) := by
      rw [ht, ha'] at h
      have e1 : g * t' * (g * t') = (g * g) * (t' * t') := by grind
      have e2 : d * (g * a' * (g * a')) = (g * g) * (d * (a' * a')) := by grind
      rw [← e1, ← e2]; exact h
    exact Nat.eq_of_mul_eq_mul_left (Nat.mul_pos hgp hgp) e
  have hdv : a' ∣ t' * t' := ⟨d * a', by rw [h2]; grind⟩
  have hd1 : a' ∣ t' := Nat.Coprime.dvd_of_dvd_mul_left (show Nat.Coprime a' t' by rw [Nat.coprime_comm]; exact hco) hdv
  have ha1 : a' = 1 := by
    have : a' ∣ Nat.gcd t' a' := Nat.dvd_gcd hd1 (Nat.dvd_refl _)
    rw [hco] at this
    exact Nat.dvd_one.mp this
  exact ⟨t', by rw [h2, ha1]; omega⟩
def rsc (p d q : Int64) : Int64 × Int64 × Int64 := if (d - p * p) - (d - p * p) / q * q = 0 then (p, d, q) else (p * (if 0 ≤ q then q else -q), d * ((if 0 ≤ q then q else -q) * (if 0 ≤ q then q else -q)), q * (if 0 ≤ q then q else -q))
theorem isq_lt {D t : Nat} (h : isq D t) (hD : D < 268435456) : t < 16384 := by
  refine Nat.not_le.mp fun q => ?_
  have := Nat.mul_le_mul q q
  have := h.1; omega
theorem rsc_ok {p q : Int64} {d : Nat} (hp : -999 ≤ p.toInt ∧ p.toInt ≤ 999) (hd : d ≤ 9999) (hq : -99 ≤ q.toInt ∧ q.toInt ≤ 99) (hq0 : q.toInt ≠ 0) (hns : ∀ u : Nat, d ≠ u * u) :
    ∃ D : Nat, (rsc p (lN d) q).2.1 = lN D ∧ D < 268435456 ∧ ∀ t, isq D t → sIv (rsc p (lN d) q).2.1 (lN t) ((rsc p (lN d) q).1, (rsc p (lN d) q).2.2) 100000 := by
  have e0 : (lN d).toInt = (d : Int) := l64 (by omega)
  have hpp := mul_rng (A := 999) (B := 999) (a := p.toInt) (b := p.toInt) (by omega) (by omega)
  have e1 : (p * p).toInt = p.toInt * p.toInt := i64_mul (by omega) (by omega)
  have e2 : (lN d - p * p).toInt = d - p.toInt * p.toInt := by rw [i64_sub (by rw [e0, e1]; omega) (by rw [e0, e1]; omega), e0, e1]
  have e3 : ((lN d - p * p) / q).toInt = (d - p.toInt * p.toInt).tdiv q.toInt := by rw [i64_div (by rw [e2]; omega), e2]
  have hdm := Int.tdiv_mul_add_tmod (d - p.toInt * p.toInt) q.toInt
  have hm1 : ((d - p.toInt * p.toInt).tmod q.toInt).natAbs < q.toInt.natAbs := by rw [Int.natAbs_tmod]; exact Nat.mod_lt _ (by omega)
  have e4 : ((lN d - p * p) / q * q).toInt = (d - p.toInt * p.toInt).tdiv q.toInt * q.toInt := by rw [i64_mul (by rw [e3]; omega) (by rw [e3]; omega), e3]
  have e5 : ((lN d - p * p) - (lN d - p * p) / q * q).toInt = (d - p.toInt * p.toInt).tmod q.toInt := by rw [i64_sub (by rw [e2, e4]; omega) (by rw [e2, e4]; omega), e2, e4]; omega
  have hsq : ∀ D t : Nat, isq D t → (∀ u : Nat, D ≠ u * u) → D < 268435456 → 0 ≤ (lN t).toInt ∧ (lN t).toInt ≤ 16384 ∧ (lN t).toInt * (lN t).toInt < (lN D).toInt ∧ (lN D).toInt < ((lN t).toInt + 1) * ((lN t).toInt + 1) := by
    intro D t ht hn hD
    have h1 := isq_lt ht hD
    have h2 := ht.1
    have h3 := ht.2
    have h4 := hn t
    rw [l64 (show t < _ by omega), l64 (show D < _ by omega)]
    refine ⟨by omega, by omega, ?_, ?_⟩
    · have : t * t < D := by omega
      exact_mod_cast this
    · exact_mod_cast h3
  by_cases hc : (lN d - p * p) - (lN d - p * p) / q * q = 0
  · have hr : rsc p (lN d) q = (p, lN d, q) := by unfold rsc; rw [if_pos hc]
    rw [hr]
    refine ⟨d, rfl, by omega, fun t ht => ⟨hsq d t ht hns (by omega), hq0, ?_, by show -100000 ≤ p.toInt ∧ p.toInt ≤ 100000; omega, by show -100000 ≤ q.toInt ∧ q.toInt ≤ 100000; omega⟩⟩
    show q.toInt ∣ (lN d).toInt - p.toInt * p.toInt
    rw [e0]
    have hz : (d - p.toInt * p.toInt).tmod q.toInt = 0 := by rw [← e5, hc]; rfl
    exact Int.dvd_of_tmod_eq_zero hz
  · obtain ⟨a, ha⟩ : ∃ a : Int64, a = if (0 : Int64) ≤ q then q else -q := ⟨_, rfl⟩
    obtain ⟨A, hA, hA1, hA2⟩ : ∃ A : Nat, a = lN A ∧ 1 ≤ A ∧ A ≤ 99 ∧ (A : Int) = q.toInt.natAbs := by
      refine ⟨q.toInt.natAbs, ?_, by omega, by omega, rfl⟩
      apply Int64.toInt_inj.mp
      rw [l64 (by omega), ha]
      by_cases h0 : (0 : Int64) ≤ q
      · rw [if_pos h0]; have : 0 ≤ q.toInt := Int64.le_iff_toInt_le.mp h0; omega
      · rw [if_neg h0, i64_neg (by omega)]; have : ¬ 0 ≤ q.toInt := fun h => h0 (Int64.le_iff_toInt_le.mpr h); omega
    obtain ⟨hA2, hA3⟩ := hA2
    have eA : (lN A).toInt = (A : Int) := l64 (by omega)
    have hr : rsc p (lN d) q = (p * lN A, lN (d * (A * A)), q * lN A) := by
      unfold rsc
      rw [if_neg hc, ← ha, hA, lN_mul, lN_mul]
    rw [hr]
    have hAA : A * A ≤ 9801 := Nat.mul_le_mul hA2 hA2
    have hDb : d * (A * A) ≤ 9999 * 9801 := Nat.mul_le_mul hd hAA
    have hpA := mul_rng (A := 999) (B := 99) (a := p.toInt) (b := A) (by omega) (by omega)
    have hqA := mul_rng (A := 99) (B := 99) (a := q.toInt) (b := A) (by omega) (by omega)
    have f1 : (p * lN A).toInt = p.toInt * A := by rw [i64_mul (by rw [eA]; omega) (by rw [eA]; omega), eA]
    have f2 : (q * lN A).toInt = q.toInt * A := by rw [i64_mul (by rw [eA]; omega) (by rw [eA]; omega), eA]
    have hsq2 : (A : Int) * A = q.toInt * q.toInt := by
      rcases Int.le_total 0 q.toInt with h | h
      · rw [show (A : Int) = q.toInt by omega]
      · rw [show (A : Int) = -q.toInt by omega, Int.neg_mul_neg]
    refine ⟨d * (A * A), rfl, by omega, fun t ht => ⟨hsq _ t ht (fun u hu => ?_) (by omega), ?_, ?_, by show -100000 ≤ (p * lN A).toInt ∧ (p * lN A).toInt ≤ 100000; rw [f1]; omega, by show -100000 ≤ (q * lN A).toInt ∧ (q * lN A).toInt ≤ 100000; rw [f2]; omega⟩⟩
    · obtain ⟨v, hv⟩ := sq_desc (t := u) (d := d) (a := A) (by omega) (by rw [hu])
      exact hns v hv
    · show (q * lN A).toInt ≠ 0
      rw [f2]
      exact Int.mul_ne_zero hq0 (by omega)
    · show (q * lN A).toInt ∣ (lN (d * (A * A))).toInt - (p * lN A).toInt * (p * lN A).toInt
      rw [f1, f2, l64 (by omega)]
      rcases Int.le_total 0 q.toInt with h | h
      · refine ⟨d - p.toInt * p.toInt, ?_⟩
        push_cast
        rw [show (A : Int) = q.toInt by omega]
        grind
      · refine ⟨-(d - p.toInt * p.toInt), ?_⟩
        push_cast
        rw [show (A : Int) = -q.toInt by omega]
        grind
