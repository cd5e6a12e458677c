/-! the class's reckoner: its halves -/
def j4 (J : Nat → Nat → Int64) (u : Nat) : H4 := (J u 0, J u 1, J u 2, J u 3)
def j4s (J : Nat → Nat → Int64) (u : Nat) (A : H4) : Nat → Nat → Int64 := fh_up (fh_up (fh_up (fh_up J u 0 A.1) u 1 A.2.1) u 2 A.2.2.1) u 3 A.2.2.2
theorem j4s_s (J : Nat → Nat → Int64) (u : Nat) (A : H4) : j4 (j4s J u A) u = A := by
  obtain ⟨a, b, c, d⟩ := A
  simp [j4, j4s, fh_up]
theorem j4s_o (J : Nat → Nat → Int64) {u b : Nat} (A : H4) (j : Nat) (h : b ≠ u) : j4s J u A b j = J b j := by
  simp [j4s, fh_up, h]
def jF (J J' : Nat → Nat → Int64) (u : Nat) : Prop := ∀ b j, b ≠ u → J' b j = J b j
theorem jF_4 {J J' : Nat → Nat → Int64} {u b : Nat} (h : jF J J' u) (hb : b ≠ u) : j4 J' b = j4 J b := by
  unfold j4
  rw [h b 0 hb, h b 1 hb, h b 2 hb, h b 3 hb]
def gw (a n b : Int64) : Int64 := if bey a n b = true then 1000000000000001 else a * n + b
theorem gw_g (a n b : Int64) : z_X11_grown a n b = some (gw a n b) := a_grown a n b
theorem gw_f {a n b : Int64} (h : bey a n b = false) : gw a n b = a * n + b := by
  unfold gw; rw [if_neg (by rw [h]; decide)]
theorem gw_M {a n b : Int64} (hn : -9000000000000000000 ≤ n.toInt ∧ n.toInt ≤ 9000000000000000000) (hb : bd b) : gw a n b = 1000000000000001 ↔ bey a n b = true := by
  by_cases h : bey a n b = true
  · unfold gw; rw [if_pos h]; exact ⟨fun _ => h, fun _ => rfl⟩
  · rw [Bool.not_eq_true] at h
    rw [gw_f h]
    exact ⟨fun e => absurd e (bd_ne (bey_ok hn hb h).2), fun e => absurd e (by rw [h]; decide)⟩
def isb (A : H4) : Bool := decide (A.1 = 1000000000000001 ∨ A.2.1 = 1000000000000001 ∨ A.2.2.1 = 1000000000000001 ∨ A.2.2.2 = 1000000000000001)
theorem a_isb (S : fh_S) (I : Nat → Nat → Int32) (J : Nat → Nat → Int64) (R : Nat → Nat → Option Nat) (u : Nat) : z_X0_isBeyond S (I, J, R) u = some (bI (isb (j4 J u))) := by
  unfold z_X0_isBeyond isb j4
  dsimp only
  by_cases h0 : J u 0 = 1000000000000001
  · rw [if_pos h0, decide_eq_true (Or.inl h0)]; rfl
  rw [if_neg h0]
  by_cases h1 : J u 1 = 1000000000000001
  · rw [if_pos h1, decide_eq_true (Or.inr (Or.inl h1))]; rfl
  rw [if_neg h1]
  by_cases h2 : J u 2 = 1000000000000001
  · rw [if_pos h2, decide_eq_true (Or.inr (Or.inr (Or.inl h2)))]; rfl
  rw [if_neg h2]
  by_cases h3 : J u 3 = 1000000000000001
  · rw [if_pos h3, decide_eq_true (Or.inr (Or.inr (Or.inr h3)))]; rfl
  rw [if_neg h3, decide_eq_false (fun h => h.elim h0 (fun h => h.elim h1 (fun h => h.elim h2 h3)))]; rfl
theorem a_rdF {S : fh_S} {I : Nat → Nat → Int32} {J : Nat → Nat → Int64} {R : Nat → Nat → Option Nat} {u : Nat} {A : H4} {v : Int32} (hA : bd4 A) (hj : j4 J u = A) : ∃ J', z_X0_readFirst S (I, J, R) u v = some (I, J', R) ∧ jF J J' u ∧ isb (j4 J' u) = by1 A v.toInt64 ∧ (by1 A v.toInt64 = false → j4 J' u = rd1 A v.toInt64) := by
  subst hj
  obtain ⟨h0, h1, h2, h3⟩ := hA
  have e0 := gw_M (a := J u 0) (i32_n v) (show bd (J u 2) from h2)
  have e1 := gw_M (a := J u 1) (i32_n v) (show bd (J u 3) from h3)
  have m0 := bd_ne (show bd (J u 0) from h0)
  have m1 := bd_ne (show bd (J u 1) from h1)
  refine ⟨j4s J u (gw (J u 0) v.toInt64 (J u 2), gw (J u 1) v.toInt64 (J u 3), J u 0, J u 1), ?_, fun b j hb => j4s_o J _ j hb, ?_, fun h => ?_⟩
  · unfold z_X0_readFirst
    rw [gw_g, b1_s, gw_g, b1_s]; rfl
  · rw [j4s_s]
    apply Bool.eq_iff_iff.mpr
    simp only [isb, by1, j4, decide_eq_true_eq, Bool.or_eq_true, e0, e1, m0, m1, or_false]
  · rw [j4s_s]
    simp only [by1, j4, Bool.or_eq_false_iff] at h
    rw [gw_f h.1, gw_f h.2]; rfl
theorem a_rdS {S : fh_S} {I : Nat → Nat → Int32} {J : Nat → Nat → Int64} {R : Nat → Nat → Option Nat} {u : Nat} {A : H4} {v : Int32} (hA : bd4 A) (hj : j4 J u = A) : ∃ J', z_X0_readSecond S (I, J, R) u v = some (I, J', R) ∧ jF J J' u ∧ isb (j4 J' u) = by2 A v.toInt64 ∧ (by2 A v.toInt64 = false → j4 J' u = rd2 A v.toInt64) := by
  subst hj
  obtain ⟨h0, h1, h2, h3⟩ := hA
  have e0 := gw_M (a := J u 0) (i32_n v) (show bd (J u 1) from h1)
  have e1 := gw_M (a := J u 2) (i32_n v) (show bd (J u 3) from h3)
  have m0 := bd_ne (show bd (J u 0) from h0)
  have m1 := bd_ne (show bd (J u 2) from h2)
  refine ⟨j4s J u (gw (J u 0) v.toInt64 (J u 1), J u 0, gw (J u 2) v.toInt64 (J u 3), J u 2), ?_, fun b j hb => j4s_o J _ j hb, ?_, fun h => ?_⟩
  · unfold z_X0_readSecond
    rw [gw_g, b1_s, gw_g, b1_s]; rfl
  · rw [j4s_s]
    apply Bool.eq_iff_iff.mpr
    simp only [isb, by2, j4, decide_eq_true_eq, Bool.or_eq_true, e0, e1, m0, m1, or_false, false_or]
  · rw [j4s_s]
    simp only [by2, j4, Bool.or_eq_false_iff] at h
    rw [gw_f h.1, gw_f h.2]; rfl
theorem a_enF {S : fh_S} {I : Nat → Nat → Int32} {J : Nat → Nat → Int64} {R : Nat → Nat → Option Nat} {u : Nat} : z_X0_endFirst S (I, J, R) u = some (I, j4s J u (en1 (j4 J u)), R) := rfl
theorem a_enS {S : fh_S} {I : Nat → Nat → Int32} {J : Nat → Nat → Int64} {R : Nat → Nat → Option Nat} {u : Nat} : z_X0_endSecond S (I, J, R) u = some (I, j4s J u (en2 (j4 J u)), R) := rfl
theorem a_sub {S : fh_S} {I : Nat → Nat → Int32} {J : Nat → Nat → Int64} {R : Nat → Nat → Option Nat} {u w : Nat} {A B : H4} {q : Int64} (hA : bd4 A) (hj : j4 J u = A) (hw : j4 J w = B) (hq : big q = false) : ∃ J', z_X0_subtract S (I, J, R) u q w = some (I, J', R) ∧ jF J J' u ∧ isb (j4 J' u) = byL A B q ∧ (byL A B q = false → j4 J' u = lo4 A B q) := by
  subst hj
  subst hw
  obtain ⟨h0, h1, h2, h3⟩ := hA
  have hn := big_neg hq
  have e0 := gw_M (a := J w 0) hn (show bd (J u 0) from h0)
  have e1 := gw_M (a := J w 1) hn (show bd (J u 1) from h1)
  have e2 := gw_M (a := J w 2) hn (show bd (J u 2) from h2)
  have e3 := gw_M (a := J w 3) hn (show bd (J u 3) from h3)
  refine ⟨j4s J u (gw (J w 0) (-q) (J u 0), gw (J w 1) (-q) (J u 1), gw (J w 2) (-q) (J u 2), gw (J w 3) (-q) (J u 3)), ?_, fun b j hb => j4s_o J _ j hb, ?_, fun h => ?_⟩
  · unfold z_X0_subtract
    rw [gw_g, b1_s, gw_g, b1_s, gw_g, b1_s, gw_g, b1_s]; rfl
  · rw [j4s_s]
    apply Bool.eq_iff_iff.mpr
    simp only [isb, byL, j4, decide_eq_true_eq, Bool.or_eq_true, e0, e1, e2, e3, or_assoc]
  · rw [j4s_s]
    simp only [byL, j4, Bool.or_eq_false_iff] at h
    rw [gw_f h.1.1.1, gw_f h.1.1.2, gw_f h.1.2, gw_f h.2]; rfl
/-! being sure -/
theorem i10 : ((1 : Int32) = 0) = False := eq_false (by decide)
theorem a_s156 {I : Nat → Nat → Int32} {J : Nat → Nat → Int64} {R : Nat → Nat → Option Nat} {u : Nat} {A B : H4} (hR : R 43 0 = some u) (hk : fh_kq SA u 0 = true) (hu : u ≠ 43) (hA : j4 J u = A) (n0 : ¬ B.1 = 0) (n1 : ¬ B.1 + B.2.1 = 0) (n2 : ¬ B.1 + B.2.2.1 = 0) (n3 : ¬ B.1 + B.2.1 + B.2.2.1 + B.2.2.2 = 0) : z_X5_isSure_b156 SA 43 (I, J, R) B.1 (B.1 + B.2.1) (B.1 + B.2.2.1) (B.1 + B.2.1 + B.2.2.1 + B.2.2.2) = some (bI (eq4 A B), (I, fh_up J 43 10 (fd A.1 B.1), R)) := by
  have a0 : J u 0 = A.1 := by rw [← hA]; rfl
  have a1 : J u 1 = A.2.1 := by rw [← hA]; rfl
  have a2 : J u 2 = A.2.2.1 := by rw [← hA]; rfl
  have a3 : J u 3 = A.2.2.2 := by rw [← hA]; rfl
  unfold z_X5_isSure_b156
  simp only [hR, b1_s, hk, ck_t, let_e, a0, a1, a2, a3, fd_z n0, fd_z n1, fd_z n2, fd_z n3, sJ_e, up_s, up_a _ _ _ _ hu]
  by_cases c1 : fd A.1 B.1 = fd (A.1 + A.2.1) (B.1 + B.2.1)
  · rw [if_pos c1]
    by_cases c2 : fd A.1 B.1 = fd (A.1 + A.2.2.1) (B.1 + B.2.2.1)
    · rw [if_pos c2]
      by_cases c3 : fd A.1 B.1 = fd (A.1 + A.2.1 + A.2.2.1 + A.2.2.2) (B.1 + B.2.1 + B.2.2.1 + B.2.2.2)
      · rw [if_pos c3, show eq4 A B = true from decide_eq_true ⟨c1, c2, c3⟩]; rfl
      · rw [if_neg c3, show eq4 A B = false from decide_eq_false (fun h => c3 h.2.2)]; rfl
    · rw [if_neg c2, show eq4 A B = false from decide_eq_false (fun h => c2 h.2.1)]; rfl
  · rw [if_neg c1, show eq4 A B = false from decide_eq_false (fun h => c1 h.1)]; rfl
theorem a_s109 {h : fh_H} {v4 v5 v6 v7 : Int64} {t0 : Int32} : z_X5_isSure_b109 SA 43 h v4 v5 v6 v7 t0 = if (v4 < 0 ∧ v5 < 0 ∧ v6 < 0 ∧ v7 < 0) ∨ ¬ t0 = 0 then z_X5_isSure_b156 SA 43 h v4 v5 v6 v7 else some (0, h) := by
  unfold z_X5_isSure_b109 z_X5_isSure_b141
  by_cases c : t0 = 0
  · simp only [c, if_true, not_true, or_false, if_false, i10]
    by_cases h1 : (0 : Int64) ≤ v4
    · rw [if_pos h1, if_neg (fun q => n64_lt.mpr h1 q.1)]
    rw [if_neg h1]
    by_cases h2 : (0 : Int64) ≤ v5
    · rw [if_pos h2, if_neg (fun q => n64_lt.mpr h2 q.2.1)]
    rw [if_neg h2]
    by_cases h3 : (0 : Int64) ≤ v6
    · rw [if_pos h3, if_neg (fun q => n64_lt.mpr h3 q.2.2.1)]
    rw [if_neg h3]
    by_cases h4 : (0 : Int64) ≤ v7
    · rw [if_pos h4, if_neg (fun q => n64_lt.mpr h4 q.2.2.2)]
    rw [if_neg h4, if_pos ⟨n64_le.mp h1, n64_le.mp h2, n64_le.mp h3, n64_le.mp h4⟩]
  · simp only [c, if_false, not_false_iff, or_true, if_true]
    split
    · rfl
    · split
      · rfl
      · split
        · rfl
        · split <;> rfl
theorem a_s30 {I : Nat → Nat → Int32} {J : Nat → Nat → Int64} {R : Nat → Nat → Option Nat} {u w : Nat} {A B : H4} (hR0 : R 43 0 = some u) (hR : R 43 1 = some w) (hku : fh_kq SA u 0 = true) (hk : fh_kq SA w 0 = true) (hu : u ≠ 43) (hA : j4 J u = A) (hB : j4 J w = B) : ∃ J', z_X5_isSure_b30 SA 43 (I, J, R) = some (bI (sg4 B && eq4 A B), (I, J', R)) ∧ jF J J' 43 ∧ (sg4 B = true → J' 43 10 = fd A.1 B.1) := by
  have z0 : ∀ {v : Int64}, 0 < v → ¬ v = 0 := fun h e => by rw [e] at h; exact absurd h (by decide)
  have z1 : ∀ {v : Int64}, v < 0 → ¬ v = 0 := fun h e => by rw [e] at h; exact absurd h (by decide)
  have e0 : z_X5_isSure_b30 SA 43 (I, J, R) = if sg4 B = true then z_X5_isSure_b156 SA 43 (I, J, R) B.1 (B.1 + B.2.1) (B.1 + B.2.2.1) (B.1 + B.2.1 + B.2.2.1 + B.2.2.2) else some (0, (I, J, R)) := by
    subst hB
    unfold z_X5_isSure_b30
    simp only [hR, b1_s, hk, ck_t, let_e, a_s109]
    have esg : (sg4 (j4 J w) = true) = ((0 < J w 0 ∧ 0 < J w 0 + J w 1 ∧ 0 < J w 0 + J w 2 ∧ 0 < J w 0 + J w 1 + J w 2 + J w 3) ∨ (J w 0 < 0 ∧ J w 0 + J w 1 < 0 ∧ J w 0 + J w 2 < 0 ∧ J w 0 + J w 1 + J w 2 + J w 3 < 0)) := by
      rw [show sg4 (j4 J w) = (decide (0 < J w 0 ∧ 0 < J w 0 + J w 1 ∧ 0 < J w 0 + J w 2 ∧ 0 < J w 0 + J w 1 + J w 2 + J w 3) || decide (J w 0 < 0 ∧ J w 0 + J w 1 < 0 ∧ J w 0 + J w 2 < 0 ∧ J w 0 + J w 1 + J w 2 + J w 3 < 0)) from rfl]
      simp only [Bool.or_eq_true, decide_eq_true_eq]
    simp only [esg]
    show _ = if _ then z_X5_isSure_b156 SA 43 (I, J, R) (J w 0) (J w 0 + J w 1) (J w 0 + J w 2) (J w 0 + J w 1 + J w 2 + J w 3) else some (0, (I, J, R))
    generalize J w 0 = v4
    generalize v4 + J w 1 = v5
    generalize v4 + J w 2 = v6
    generalize v5 + J w 2 + J w 3 = v7
    by_cases h1 : v4 ≤ 0
    · rw [if_pos h1]
      simp only [n64_lt.mpr h1, false_and, false_or, not_true, or_false]
    rw [if_neg h1]
    by_cases h2 : v5 ≤ 0
    · rw [if_pos h2]
      simp only [n64_lt.mpr h2, false_and, and_false, false_or, not_true, or_false]
    rw [if_neg h2]
    by_cases h3 : v6 ≤ 0
    · rw [if_pos h3]
      simp only [n64_lt.mpr h3, false_and, and_false, false_or, not_true, or_false]
    rw [if_neg h3]
    by_cases h4 : v7 ≤ 0
    · rw [if_pos h4]
      simp only [n64_lt.mpr h4, and_false, false_or, not_true, or_false]
    rw [if_neg h4, if_pos (Or.inr (by decide)), if_pos (Or.inl ⟨n64_le.mp h1, n64_le.mp h2, n64_le.mp h3, n64_le.mp h4⟩)]
  rw [e0]
  by_cases hs : sg4 B = true
  · rw [if_pos hs]
    have hs2 := hs
    simp only [sg4, Bool.or_eq_true, decide_eq_true_eq] at hs2
    have hn : ¬ B.1 = 0 ∧ ¬ B.1 + B.2.1 = 0 ∧ ¬ B.1 + B.2.2.1 = 0 ∧ ¬ B.1 + B.2.1 + B.2.2.1 + B.2.2.2 = 0 := hs2.elim (fun h => ⟨z0 h.1, z0 h.2.1, z0 h.2.2.1, z0 h.2.2.2⟩) (fun h => ⟨z1 h.1, z1 h.2.1, z1 h.2.2.1, z1 h.2.2.2⟩)
    refine ⟨fh_up J 43 10 (fd A.1 B.1), ?_, fun b j hb => up_a _ _ _ _ hb, fun _ => up_s _ _ _ _⟩
    rw [a_s156 hR0 hku hu hA hn.1 hn.2.1 hn.2.2.1 hn.2.2.2, hs, Bool.true_and]
  · rw [if_neg hs]
    rw [Bool.not_eq_true] at hs
    exact ⟨J, by rw [hs, Bool.false_and]; rfl, fun _ _ _ => rfl, fun h => absurd h (by rw [hs]; decide)⟩
def rkA (I : Nat → Nat → Int32) (J : Nat → Nat → Int64) (R : Nat → Nat → Option Nat) (σ : rS) : Prop := ∃ u w, (u = 44 ∧ w = 45 ∨ u = 45 ∧ w = 44) ∧ R 43 0 = some u ∧ R 43 1 = some w ∧ j4 J u = σ.1 ∧ j4 J w = σ.2.1 ∧ I 43 4 = nI σ.2.2.1 ∧ I 43 5 = nI σ.2.2.2.1 ∧ I 43 6 = nI σ.2.2.2.2.1 ∧ I 43 7 = bI σ.2.2.2.2.2.1 ∧ I 43 8 = bI σ.2.2.2.2.2.2.1 ∧ I 43 9 = bI σ.2.2.2.2.2.2.2
theorem k44 : fh_kq SA 44 0 = true := kA_44
theorem kuw {u w : Nat} (h : u = 44 ∧ w = 45 ∨ u = 45 ∧ w = 44) : fh_kq SA u 0 = true ∧ fh_kq SA w 0 = true ∧ u ≠ 43 ∧ w ≠ 43 ∧ u ≠ w := by
  rcases h with ⟨rfl, rfl⟩ | ⟨rfl, rfl⟩
  · exact ⟨kA_44, kA_45, by decide, by decide, by decide⟩
  · exact ⟨kA_45, kA_44, by decide, by decide, by decide⟩
theorem nx0 {x : Nat} (h : x < 1000) : nI x = 0 ↔ ¬ 0 < x := by
  rw [show (0 : Int32) = nI 0 from rfl, nI_eq (by omega) (by omega)]; omega
theorem a_sure {I : Nat → Nat → Int32} {J : Nat → Nat → Int64} {R : Nat → Nat → Option Nat} {A B : H4} {x y s : Nat} {e1 e2 tk : Bool} (h : rkA I J R (A, B, x, y, s, e1, e2, tk)) (hx : x < 1000) (hy : y < 1000) : ∃ J', z_X5_isSure SA (I, J, R) 43 = some (bI (sur A B x y e1 e2), (I, J', R)) ∧ jF J J' 43 ∧ (sur A B x y e1 e2 = true → J' 43 10 = fd A.1 B.1) := by
  obtain ⟨u, w, huw, r0, r1, hA, hB, i4, i5, i6, i7, i8, i9⟩ := h
  obtain ⟨ku, kw, u43, w43, -⟩ := kuw huw
  obtain ⟨J', e, hF, hq⟩ := a_s30 (I := I) r0 r1 ku kw u43 hA hB
  dsimp only at i4 i5 i7 i8
  have e14 : z_X5_isSure_b14 SA 43 (I, J, R) = if (e2 || decide (0 < y)) = true then z_X5_isSure_b30 SA 43 (I, J, R) else some (0, (I, J, R)) := by
    unfold z_X5_isSure_b14
    simp only [i8, i5, bI_0, nx0 hy]
    cases e2
    · by_cases c : 0 < y
      · simp [c]
      · simp [c]
    · simp
  have e0 : z_X5_isSure SA (I, J, R) 43 = if (e1 || decide (0 < x)) = true ∧ (e2 || decide (0 < y)) = true then z_X5_isSure_b30 SA 43 (I, J, R) else some (0, (I, J, R)) := by
    unfold z_X5_isSure
    simp only [i7, i4, e14, bI_0, nx0 hx]
    cases e1
    · by_cases c : 0 < x
      · simp [c]
      · simp [c]
    · simp
  rw [e0]
  by_cases c : (e1 || decide (0 < x)) = true ∧ (e2 || decide (0 < y)) = true
  · rw [if_pos c]
    refine ⟨J', ?_, hF, fun q => hq ?_⟩
    · rw [e]; unfold sur; dsimp only; rw [c.1, c.2, Bool.true_and, Bool.true_and]
    · unfold sur at q
      simp only [Bool.and_eq_true] at q
      exact q.1.2
  · rw [if_neg c]
    have hf : sur A B x y e1 e2 = false := by
      unfold sur
      rw [Bool.eq_false_iff]
      intro q
      simp only [Bool.and_eq_true] at q
      exact c ⟨q.1.1.1, q.1.1.2⟩
    exact ⟨J, by rw [hf]; rfl, fun _ _ _ => rfl, fun q => absurd q (by rw [hf]; decide)⟩
