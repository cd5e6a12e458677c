/-! the class's reckoner: reading, letting out, the run -/
theorem a_kn {S : fh_S} {I : Nat → Nat → Int32} {J : Nat → Nat → Int64} {R : Nat → Nat → Option Nat} {a n x : Nat} (hm : I a 6 = nI n) (hn : n < 1000) (hx : x < 1000) : z_X6_knows S (I, J, R) a (nI x) = some (if x < n then 1 else 0) := by
  unfold z_X6_knows
  simp only [hm]
  rw [if_neg (nI_pos (by omega))]
  by_cases h : x < n
  · rw [if_neg (nI_ge h (by omega)), if_pos h]
  · rw [if_pos (nI_le (by omega) (by omega)), if_neg h]
theorem a_un {S : fh_S} {I : Nat → Nat → Int32} {J : Nat → Nat → Int64} {R : Nat → Nat → Option Nat} {a n x : Nat} {st : Int32} (hm : I a 6 = nI n) (h7 : I a 7 = st) (hn : n < 1000) (hx : x < 1000) : z_X6_unknownAt S (I, J, R) a (nI x) = some (if x < n then 0 else if st = 1 then 0 else 1) := by
  unfold z_X6_unknownAt
  rw [a_kn hm hn hx, b1_s]
  simp only [h7]
  by_cases h : x < n
  · rw [if_pos h, if_pos h, if_neg (by decide)]
  · rw [if_neg h, if_neg h, if_pos (show (0 : Int32) = 0 from rfl)]
    split <;> rfl
theorem a_ta {I : Nat → Nat → Int32} {J : Nat → Nat → Int64} {R : Nat → Nat → Option Nat} (hR : RA R) {a x : Nat} (ha : rwA a) (hx : x < 60) : z_X6_termAt SA (I, J, R) a (nI x) = some (I (a + 1) x) := by
  obtain ⟨k0, k1, k2, k3⟩ := rwA_k ha
  obtain ⟨l1, l2, l3⟩ := rwA_l ha
  obtain ⟨r1, r2, r3⟩ := rA_arr hR ha
  unfold z_X6_termAt
  rw [if_neg (nI_pos (by omega))]
  simp only [r1, b1_s, k1, ck_t, l1]
  rw [ if_neg (show ¬ Int32.ofNat 60 ≤ nI x from nI_ge (b := 60) (by omega) (by omega)), in_n (by omega) (by omega), ck_t, nI_clamp (by omega)]
def srcA (I : Nat → Nat → Int32) (R : Nat → Nat → Option Nat) (a k : Nat) (X : List Int32 × Int32) : Prop := ∃ b, rwA b ∧ b ≠ a ∧ R 43 k = some b ∧ rowA I b X.1 X.2 ∧ X.1.length ≤ 60
theorem rw43 {a : Nat} (ha : rwA a) : a + 3 < 43 ∨ 43 < a := by
  rcases ha with rfl | ⟨r, hr, rfl⟩ <;> omega
theorem rw_rw {a b : Nat} (ha : rwA a) (hb : rwA b) (h : b ≠ a) : b + 3 < a ∨ a + 3 < b := by
  rcases ha with rfl | ⟨r, hr, rfl⟩ <;> rcases hb with rfl | ⟨q, hq, rfl⟩ <;> omega
theorem rowA_F {a b : Nat} {I I' : Nat → Nat → Int32} {l : List Int32} {st : Int32} (hF : aF a I I') (ha : rwA a) (hb : rwA b) (h : b ≠ a) (hr : rowA I b l st) : rowA I' b l st := by
  have h1 := rw_rw ha hb h
  have h2 := rw43 hb
  obtain ⟨q1, q2, q3⟩ := hr
  have e : ∀ c j, b ≤ c → c ≤ b + 3 → I' c j = I c j := fun c j c1 c2 => aF_out hF ⟨by omega, by omega⟩ j
  exact ⟨by rw [e b 6 (by omega) (by omega)]; exact q1, lst_cong q2 (fun j _ _ => e (b + 1) j (by omega) (by omega)), by rw [e b 7 (by omega) (by omega)]; exact q3⟩
theorem srcA_F {a k : Nat} {I I' : Nat → Nat → Int32} {R R' : Nat → Nat → Option Nat} {X : List Int32 × Int32} (hF : aF a I I') (ha : rwA a) (hR : R' 43 k = R 43 k) (h : srcA I R a k X) : srcA I' R' a k X := by
  obtain ⟨b, hb, hne, hk, hr, hl⟩ := h
  exact ⟨b, hb, hne, by rw [hR]; exact hk, rowA_F hF ha hb hne hr, hl⟩
theorem aF_43 {a : Nat} {I I' : Nat → Nat → Int32} (h : ∀ b j, b ≠ 43 → I' b j = I b j) : aF a I I' := fun b j q => h b j (fun e => q (Or.inr (Or.inr e)))
theorem a_readF {I : Nat → Nat → Int32} {J : Nat → Nat → Int64} {R : Nat → Nat → Option Nat} (hR : RA R) {a : Nat} {X : List Int32 × Int32} {A B : H4} {x y s : Nat} {e2 : Bool} (h : rkA I J R (A, B, x, y, s, false, e2, true)) (hA : bd4 A) (hB : bd4 B) (hs : srcA I R a 2 X) (hx : x ≤ X.1.length) : ∃ I' J', z_X5_readFirst SA (I, J, R) 43 = some ((rX X A B x y s false e2).1, (I', J', R)) ∧ (∀ b j, b ≠ 43 → I' b j = I b j) ∧ I' 43 4 = nI (rX X A B x y s false e2).2.2.2.1 ∧ I' 43 5 = nI (rX X A B x y s false e2).2.2.2.2.1 ∧ ((rX X A B x y s false e2).1 = 4 → rkA I' J' R (rX X A B x y s false e2).2) := by
  obtain ⟨u, w, huw, r0, r1, jA, jB, i4, i5, i6, i7, i8, i9⟩ := h
  obtain ⟨ku, kw, u43, w43, uw⟩ := kuw huw
  obtain ⟨b, hb, -, r2, ⟨m6, ml, m7⟩, hlen⟩ := hs
  have kb := (rwA_k hb).1
  dsimp only at jA jB i4 i5 i6 i7 i8 i9
  unfold z_X5_readFirst rX
  by_cases hl : x < X.1.length
  · have hv : I (b + 1) x = X.1.getD x 0 := by have := ml x hl; rw [Nat.zero_add] at this; exact this
    obtain ⟨J1, q1, f1, b1, d1⟩ := a_rdF (S := SA) (I := I) (R := R) (v := X.1.getD x 0) hA jA
    have jB1 : j4 J1 w = B := by rw [jF_4 f1 (fun e => uw e.symm)]; exact jB
    obtain ⟨J2, q2, f2, b2, d2⟩ := a_rdF (S := SA) (I := I) (R := R) (v := X.1.getD x 0) hB jB1
    have jA2 : j4 J2 u = j4 J1 u := jF_4 f2 uw
    refine ⟨fh_up (fh_up I 43 4 (nI (x + 1))) 43 6 (nI (s + 1)), J2, ?_, ?_, ?_, ?_, ?_⟩
    · simp (disch := omega) only [r2, nn_s, kb, ck_t, i4, i6, a_un m6 m7 (show X.1.length < 1000 by omega) (show x < 1000 by omega), a_kn m6 (show X.1.length < 1000 by omega) (show x < 1000 by omega), a_ta hR hb (show x < 60 by omega), b1_s, if_pos hl, eq_self, if_true, i10, if_false, r0, r1, ku, kw, hv, q1, q2, let_e, sI_e, up_s, up_k, nI_1, a_isb, jA2, b1, b2]
      cases by1 A (X.1.getD x 0).toInt64 <;> cases by1 B (X.1.getD x 0).toInt64 <;> rfl
    · intro c j hc
      rw [up_a _ _ _ _ hc, up_a _ _ _ _ hc]
    · rw [if_pos hl, up_k _ _ _ _ (by decide), up_s]
    · rw [if_pos hl, up_k _ _ _ _ (by decide), up_k _ _ _ _ (by decide)]; exact i5
    · rw [if_pos hl]
      dsimp only
      intro hc
      have hb2 : by1 A (X.1.getD x 0).toInt64 = false ∧ by1 B (X.1.getD x 0).toInt64 = false := by
        cases p1 : by1 A (X.1.getD x 0).toInt64 <;> cases p2 : by1 B (X.1.getD x 0).toInt64 <;> rw [p1, p2] at hc <;> first | exact ⟨rfl, rfl⟩ | exact absurd hc (by decide)
      refine ⟨u, w, huw, r0, r1, ?_, d2 hb2.2, ?_, ?_, ?_, ?_, ?_, ?_⟩
      · rw [jA2]; exact d1 hb2.1
      · rw [up_k _ _ _ _ (by decide), up_s]
      · rw [up_k _ _ _ _ (by decide), up_k _ _ _ _ (by decide)]; exact i5
      · rw [up_s]
      · rw [up_k _ _ _ _ (by decide), up_k _ _ _ _ (by decide)]; exact i7
      · rw [up_k _ _ _ _ (by decide), up_k _ _ _ _ (by decide)]; exact i8
      · rw [up_k _ _ _ _ (by decide), up_k _ _ _ _ (by decide)]; exact i9
  · by_cases he : X.2 = 1
    · refine ⟨fh_up I 43 7 1, j4s (j4s J u (en1 (j4 J u))) w (en1 (j4 J w)), ?_, ?_, ?_, ?_, ?_⟩
      · have jw : j4 (j4s J u (en1 (j4 J u))) w = j4 J w := jF_4 (fun c j hc => j4s_o J _ j hc) (fun e => uw e.symm)
        simp (disch := omega) only [r2, nn_s, kb, ck_t, i4, a_un m6 m7 (show X.1.length < 1000 by omega) (show x < 1000 by omega), a_kn m6 (show X.1.length < 1000 by omega) (show x < 1000 by omega), b1_s, if_neg hl, if_pos he, eq_self, if_true, i10, if_false, r0, r1, ku, kw, a_enF, jw, let_e, sI_e]
      · intro c j hc
        rw [up_a _ _ _ _ hc]
      · rw [if_neg hl, if_pos he, up_k _ _ _ _ (by decide)]; exact i4
      · rw [if_neg hl, if_pos he, up_k _ _ _ _ (by decide)]; exact i5
      · rw [if_neg hl, if_pos he]
        intro _
        refine ⟨u, w, huw, r0, r1, ?_, ?_, ?_, ?_, ?_, ?_, ?_, ?_⟩
        · rw [jF_4 (fun c j hc => j4s_o _ _ j hc) uw, j4s_s, jA]
        · rw [j4s_s, jB]
        · rw [up_k _ _ _ _ (by decide)]; exact i4
        · rw [up_k _ _ _ _ (by decide)]; exact i5
        · rw [up_k _ _ _ _ (by decide)]; exact i6
        · rw [up_s]; rfl
        · rw [up_k _ _ _ _ (by decide)]; exact i8
        · rw [up_k _ _ _ _ (by decide)]; exact i9
    · refine ⟨I, J, ?_, fun _ _ _ => rfl, ?_, ?_, ?_⟩
      · simp (disch := omega) only [r2, nn_s, kb, ck_t, i4, a_un m6 m7 (show X.1.length < 1000 by omega) (show x < 1000 by omega), b1_s, if_neg hl, if_neg he, i10, if_false]
      · rw [if_neg hl, if_neg he]; exact i4
      · rw [if_neg hl, if_neg he]; exact i5
      · rw [if_neg hl, if_neg he]; intro hc; exact absurd hc n34
theorem a_readS {I : Nat → Nat → Int32} {J : Nat → Nat → Int64} {R : Nat → Nat → Option Nat} (hR : RA R) {a : Nat} {Y : List Int32 × Int32} {A B : H4} {x y s : Nat} {e1 : Bool} (h : rkA I J R (A, B, x, y, s, e1, false, false)) (hA : bd4 A) (hB : bd4 B) (hs : srcA I R a 3 Y) (hx : y ≤ Y.1.length) : ∃ I' J', z_X5_readSecond SA (I, J, R) 43 = some ((rY Y A B x y s e1 false).1, (I', J', R)) ∧ (∀ b j, b ≠ 43 → I' b j = I b j) ∧ I' 43 4 = nI (rY Y A B x y s e1 false).2.2.2.1 ∧ I' 43 5 = nI (rY Y A B x y s e1 false).2.2.2.2.1 ∧ ((rY Y A B x y s e1 false).1 = 4 → rkA I' J' R (rY Y A B x y s e1 false).2) := by
  obtain ⟨u, w, huw, r0, r1, jA, jB, i4, i5, i6, i7, i8, i9⟩ := h
  obtain ⟨ku, kw, u43, w43, uw⟩ := kuw huw
  obtain ⟨b, hb, -, r2, ⟨m6, ml, m7⟩, hlen⟩ := hs
  have kb := (rwA_k hb).1
  dsimp only at jA jB i4 i5 i6 i7 i8 i9
  unfold z_X5_readSecond rY
  by_cases hl : y < Y.1.length
  · have hv : I (b + 1) y = Y.1.getD y 0 := by have := ml y hl; rw [Nat.zero_add] at this; exact this
    obtain ⟨J1, q1, f1, b1, d1⟩ := a_rdS (S := SA) (I := I) (R := R) (v := Y.1.getD y 0) hA jA
    have jB1 : j4 J1 w = B := by rw [jF_4 f1 (fun e => uw e.symm)]; exact jB
    obtain ⟨J2, q2, f2, b2, d2⟩ := a_rdS (S := SA) (I := I) (R := R) (v := Y.1.getD y 0) hB jB1
    have jA2 : j4 J2 u = j4 J1 u := jF_4 f2 uw
    refine ⟨fh_up (fh_up I 43 5 (nI (y + 1))) 43 6 (nI (s + 1)), J2, ?_, ?_, ?_, ?_, ?_⟩
    · simp (disch := omega) only [r2, nn_s, kb, ck_t, i5, i6, a_un m6 m7 (show Y.1.length < 1000 by omega) (show y < 1000 by omega), a_kn m6 (show Y.1.length < 1000 by omega) (show y < 1000 by omega), a_ta hR hb (show y < 60 by omega), b1_s, if_pos hl, eq_self, if_true, i10, if_false, r0, r1, ku, kw, hv, q1, q2, let_e, sI_e, up_s, up_k, nI_1, a_isb, jA2, b1, b2]
      cases by2 A (Y.1.getD y 0).toInt64 <;> cases by2 B (Y.1.getD y 0).toInt64 <;> rfl
    · intro c j hc
      rw [up_a _ _ _ _ hc, up_a _ _ _ _ hc]
    · rw [if_pos hl, up_k _ _ _ _ (by decide), up_k _ _ _ _ (by decide)]; exact i4
    · rw [if_pos hl, up_k _ _ _ _ (by decide), up_s]
    · rw [if_pos hl]
      dsimp only
      intro hc
      have hb2 : by2 A (Y.1.getD y 0).toInt64 = false ∧ by2 B (Y.1.getD y 0).toInt64 = false := by
        cases p1 : by2 A (Y.1.getD y 0).toInt64 <;> cases p2 : by2 B (Y.1.getD y 0).toInt64 <;> rw [p1, p2] at hc <;> first | exact ⟨rfl, rfl⟩ | exact absurd hc (by decide)
      refine ⟨u, w, huw, r0, r1, ?_, d2 hb2.2, ?_, ?_, ?_, ?_, ?_, ?_⟩
      · rw [jA2]; exact d1 hb2.1
      · rw [up_k _ _ _ _ (by decide), up_k _ _ _ _ (by decide)]; exact i4
      · rw [up_k _ _ _ _ (by decide), up_s]
      · rw [up_s]
      · rw [up_k _ _ _ _ (by decide), up_k _ _ _ _ (by decide)]; exact i7
      · rw [up_k _ _ _ _ (by decide), up_k _ _ _ _ (by decide)]; exact i8
      · rw [up_k _ _ _ _ (by decide), up_k _ _ _ _ (by decide)]; exact i9
  · by_cases he : Y.2 = 1
    · refine ⟨fh_up I 43 8 1, j4s (j4s J u (en2 (j4 J u))) w (en2 (j4 J w)), ?_, ?_, ?_, ?_, ?_⟩
      · have jw : j4 (j4s J u (en2 (j4 J u))) w = j4 J w := jF_4 (fun c j hc => j4s_o J _ j hc) (fun e => uw e.symm)
        simp (disch := omega) only [r2, nn_s, kb, ck_t, i5, a_un m6 m7 (show Y.1.length < 1000 by omega) (show y < 1000 by omega), a_kn m6 (show Y.1.length < 1000 by omega) (show y < 1000 by omega), b1_s, if_neg hl, if_pos he, eq_self, if_true, i10, if_false, r0, r1, ku, kw, a_enS, jw, let_e, sI_e]
      · intro c j hc
        rw [up_a _ _ _ _ hc]
      · rw [if_neg hl, if_pos he, up_k _ _ _ _ (by decide)]; exact i4
      · rw [if_neg hl, if_pos he, up_k _ _ _ _ (by decide)]; exact i5
      · rw [if_neg hl, if_pos he]
        intro _
        refine ⟨u, w, huw, r0, r1, ?_, ?_, ?_, ?_, ?_, ?_, ?_, ?_⟩
        · rw [jF_4 (fun c j hc => j4s_o _ _ j hc) uw, j4s_s, jA]
        · rw [j4s_s, jB]
        · rw [up_k _ _ _ _ (by decide)]; exact i4
        · rw [up_k _ _ _ _ (by decide)]; exact i5
        · rw [up_k _ _ _ _ (by decide)]; exact i6
        · rw [up_k _ _ _ _ (by decide)]; exact i7
        · rw [up_s]; rfl
        · rw [up_k _ _ _ _ (by decide)]; exact i9
    · refine ⟨I, J, ?_, fun _ _ _ => rfl, ?_, ?_, ?_⟩
      · simp (disch := omega) only [r2, nn_s, kb, ck_t, i5, a_un m6 m7 (show Y.1.length < 1000 by omega) (show y < 1000 by omega), b1_s, if_neg hl, if_neg he, i10, if_false]
      · rw [if_neg hl, if_neg he]; exact i4
      · rw [if_neg hl, if_neg he]; exact i5
      · rw [if_neg hl, if_neg he]; intro hc; exact absurd hc n34
theorem a_let2 {I : Nat → Nat → Int32} {J : Nat → Nat → Int64} {R : Nat → Nat → Option Nat} {a : Nat} {A B : H4} {x y s : Nat} {e1 e2 tk : Bool} {q : Int64} (h : rkA I J R (A, B, x, y, s, e1, e2, tk)) (hq : J 43 10 = q) (hA : bd4 A) (hc : (big q || byL A B q) = true) : ∃ J', z_X5_letOut SA (I, J, R) 43 a = some (2, (I, J', R)) := by
  obtain ⟨u, w, huw, r0, r1, jA, jB, i4, i5, i6, i7, i8, i9⟩ := h
  obtain ⟨ku, kw, u43, w43, uw⟩ := kuw huw
  dsimp only at jA jB
  unfold z_X5_letOut
  simp only [hq]
  by_cases c1 : (1000000000 : Int64) < q
  · rw [if_pos c1]; exact ⟨J, rfl⟩
  rw [if_neg c1]
  by_cases c2 : (-1000000000 : Int64) ≤ q
  · rw [if_pos c2]
    have hb : big q = false := by
      unfold big; rw [decide_eq_false c1, decide_eq_false (n64_lt.mpr c2)]; rfl
    obtain ⟨J1, q1, f1, b1, d1⟩ := a_sub (S := SA) (I := I) (R := R) hA jA jB hb
    rw [hb, Bool.false_or] at hc
    refine ⟨J1, ?_⟩
    simp only [r0, r1, b1_s, ku, kw, ck_t, q1, a_isb, b1, hc, bI_t, i10, if_false]
  · rw [if_neg c2]; exact ⟨J, rfl⟩
theorem a_let4 {I : Nat → Nat → Int32} {J : Nat → Nat → Int64} {R : Nat → Nat → Option Nat} (hR : RA R) {a n : Nat} {A B : H4} {x y s : Nat} {e1 e2 tk : Bool} {q : Int64} (ha : rwA a) (h : rkA I J R (A, B, x, y, s, e1, e2, tk)) (hq : J 43 10 = q) (hA : bd4 A) (hm : I a 6 = nI n) (hn : n < 60) (hc : (big q || byL A B q) = false) : ∃ J' R', z_X5_letOut SA (I, J, R) 43 a = some (4, (fh_up (addA I a n q.toInt32 (nI x) (nI y)) 43 6 0, J', R')) ∧ rkA (fh_up (addA I a n q.toInt32 (nI x) (nI y)) 43 6 0) J' R' (B, lo4 A B q, x, y, 0, e1, e2, tk) ∧ RA R' ∧ (∀ b j, b ≠ 43 → R' b j = R b j) ∧ R' 43 2 = R 43 2 ∧ R' 43 3 = R 43 3 := by
  obtain ⟨u, w, huw, r0, r1, jA, jB, i4, i5, i6, i7, i8, i9⟩ := h
  obtain ⟨ku, kw, u43, w43, uw⟩ := kuw huw
  dsimp only at jA jB i4 i5 i6 i7 i8 i9
  rw [Bool.or_eq_false_iff] at hc
  obtain ⟨J1, q1, f1, b1, d1⟩ := a_sub (S := SA) (I := I) (R := R) hA jA jB hc.1
  have hR1 : RA (fh_up (fh_up R 43 0 (some w)) 43 1 (some u)) := RA_43 (RA_43 hR 0 _) 1 _
  have h43 := rw43 ha
  have hc1 := hc.1
  simp only [big, Bool.or_eq_false_iff, decide_eq_false_iff_not] at hc1
  have hj : J1 43 10 = q := by rw [f1 43 10 (fun e => u43 e.symm)]; exact hq
  have hadd : ∀ j, j ≠ 6 → fh_up (addA I a n q.toInt32 (nI x) (nI y)) 43 6 0 43 j = I 43 j := fun j hj => by
    rw [up_k _ _ _ _ hj]; unfold addA
    simp (disch := omega) only [up_a]
  refine ⟨J1, fh_up (fh_up R 43 0 (some w)) 43 1 (some u), ?_, ⟨w, u, huw.symm.imp (fun h => ⟨h.2, h.1⟩) (fun h => ⟨h.2, h.1⟩), ?_, up_s _ _ _ _, ?_, d1 hc.2, ?_, ?_, up_s _ _ _ _, ?_, ?_, ?_⟩, hR1, ?_, ?_, ?_⟩
  · unfold z_X5_letOut
    simp only [hq]
    rw [if_neg hc1.1, if_pos (n64_lt.mp hc1.2)]
    simp only [r0, r1, b1_s, ku, kw, ck_t, q1, a_isb, b1, hc.2, bI_f, eq_self, if_true, nn_s, let_e, sR_e, hj, i4, i5]
    rw [a_add hR1 ha hn hm, b1_s]; rfl
  · rw [up_k _ _ _ _ (by decide), up_s]
  · rw [jF_4 f1 (fun e => uw e.symm)]; exact jB
  · rw [hadd 4 (by decide)]; exact i4
  · rw [hadd 5 (by decide)]; exact i5
  · rw [hadd 7 (by decide)]; exact i7
  · rw [hadd 8 (by decide)]; exact i8
  · rw [hadd 9 (by decide)]; exact i9
  · intro b j hb
    rw [up_a _ _ _ _ hb, up_a _ _ _ _ hb]
  · rw [up_k _ _ _ _ (by decide), up_k _ _ _ _ (by decide)]
  · rw [up_k _ _ _ _ (by decide), up_k _ _ _ _ (by decide)]
def outA (I : Nat → Nat → Int32) (a : Nat) (l : List rT) : Prop := I a 6 = nI l.length ∧ lst (I (a + 1)) 0 (l.map (fun t => t.1)) ∧ lst (I (a + 2)) 0 (l.map (fun t => t.2.1)) ∧ lst (I (a + 3)) 0 (l.map (fun t => t.2.2))
def rowA3 (I : Nat → Nat → Int32) (a : Nat) (D : List rT × Int32 × Int32) : Prop := outA I a D.1 ∧ I a 7 = D.2.1 ∧ I a 8 = D.2.2
theorem outA_cong {I I' : Nat → Nat → Int32} {a : Nat} {l : List rT} (h : outA I a l) (e : ∀ b j, b ≠ 43 → I' b j = I b j) (ha : rwA a) : outA I' a l := by
  have := rw43 ha
  obtain ⟨h1, h2, h3, h4⟩ := h
  exact ⟨by rw [e _ _ (by omega)]; exact h1, lst_cong h2 (fun j _ _ => e _ _ (by omega)), lst_cong h3 (fun j _ _ => e _ _ (by omega)), lst_cong h4 (fun j _ _ => e _ _ (by omega))⟩
theorem outA_add {I : Nat → Nat → Int32} {a : Nat} {l : List rT} {v x y z : Int32} (h : outA I a l) (ha : rwA a) : outA (fh_up (addA I a l.length v x y) 43 6 z) a (l ++ [(v, x, y)]) := by
  have h43 := rw43 ha
  obtain ⟨h1, h2, h3, h4⟩ := h
  unfold addA
  refine ⟨?_, ?_, ?_, ?_⟩
  · simp (disch := omega) only [up_a, up_s, List.length_append, List.length_singleton]
  · rw [List.map_append]
    refine lst_snoc (lst_cong h2 (fun j j1 j2 => ?_)) ?_
    · rw [List.length_map] at j2
      simp (disch := omega) only [up_a, up_k]
    · rw [List.length_map, Nat.zero_add]
      simp (disch := omega) only [up_a, up_s]
  · rw [List.map_append]
    refine lst_snoc (lst_cong h3 (fun j j1 j2 => ?_)) ?_
    · rw [List.length_map] at j2
      simp (disch := omega) only [up_a, up_k]
    · rw [List.length_map, Nat.zero_add]
      simp (disch := omega) only [up_a, up_s]
  · rw [List.map_append]
    refine lst_snoc (lst_cong h4 (fun j j1 j2 => ?_)) ?_
    · rw [List.length_map] at j2
      simp (disch := omega) only [up_a, up_k]
    · rw [List.length_map, Nat.zero_add]
      simp (disch := omega) only [up_a, up_s]
