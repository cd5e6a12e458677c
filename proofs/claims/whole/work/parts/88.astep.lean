/-! the class's reckoner: a step, the run -/
theorem nxf_no {two : Bool} {X Y : List Int32 × Int32} {A B : H4} {x y s : Nat} {e1 e2 tk : Bool} (h : rOK two X Y (A, B, x, y, s, e1, e2, tk)) (c1 : ¬ (e1 = true ∧ e2 = true ∧ B.1 = 0)) (c2 : ¬ sur A B x y e1 e2 = true) (c4 : ¬ nxf e1 e2 tk = true) : e2 = false ∧ two = true := by
  have he : e2 = false := by
    cases e2
    · rfl
    · cases e1
      · simp [nxf] at c4
      · exact absurd (both_sure h (fun q => c1 ⟨rfl, rfl, q⟩)) c2
  refine ⟨he, ?_⟩
  cases two
  · have := (h.2.2.2.2.2.2.2 rfl).1
    rw [he] at this; cases this
  · rfl
theorem nxf_yes {e1 e2 tk : Bool} (c4 : nxf e1 e2 tk = true) : e1 = false := by
  cases e1
  · rfl
  · simp [nxf] at c4
theorem a_fin {h : fh_H} {a f : Nat} {m c y : Int32} (hc : ¬ c = 4) : z_X5_run_b5 SA 43 (f + 1) h a m c y = z_X5_run_b158 SA 43 h a c a := by
  rw [z_X5_run_b5, if_neg hc, if_neg hc]
  split <;> rfl
theorem rkA_J {I : Nat → Nat → Int32} {J J' : Nat → Nat → Int64} {R : Nat → Nat → Option Nat} {σ : rS} (h : rkA I J R σ) (hF : jF J J' 43) : rkA I J' R σ := by
  obtain ⟨u, w, huw, r0, r1, jA, jB, q⟩ := h
  obtain ⟨-, -, u43, w43, -⟩ := kuw huw
  exact ⟨u, w, huw, r0, r1, by rw [jF_4 hF u43]; exact jA, by rw [jF_4 hF w43]; exact jB, q⟩
def hw (R : Nat → Nat → Option Nat) : Prop := ∃ u w, (u = 44 ∧ w = 45 ∨ u = 45 ∧ w = 44) ∧ R 43 0 = some u ∧ R 43 1 = some w
theorem rkA_hw {I : Nat → Nat → Int32} {J : Nat → Nat → Int64} {R : Nat → Nat → Option Nat} {σ : rS} (h : rkA I J R σ) : hw R := by
  obtain ⟨u, w, huw, r0, r1, -⟩ := h
  exact ⟨u, w, huw, r0, r1⟩
theorem a_119 {I : Nat → Nat → Int32} {J : Nat → Nat → Int64} {R : Nat → Nat → Option Nat} {a : Nat} {m y4 : Int32} {K : fh_H → Nat → Int32 → Int32 → Int32 → Option fh_H} (b : Bool) : z_X5_run_b119 SA 43 K (I, J, R) a m y4 (bI b) 43 = if b = true then fh_b2 (z_X5_readFirst SA (fh_up I 43 9 1, J, R) 43) (fun r9 h10 => K h10 a m r9 (y4 + 1)) else fh_b2 (z_X5_readSecond SA (fh_up I 43 9 0, J, R) 43) (fun r9 h10 => K h10 a m r9 (y4 + 1)) := by
  unfold z_X5_run_b119
  cases b
  · simp only [kA_43, ck_t, bI_f, decide_true, true_or, let_e, sI_e, up_s, eq_self, if_true, Bool.false_eq_true, if_false]
  · simp only [kA_43, ck_t, bI_t, decide_true, or_true, let_e, sI_e, up_s, eq_self, if_true, i10, if_false]
theorem a_62no {I : Nat → Nat → Int32} {J J' : Nat → Nat → Int64} {R : Nat → Nat → Option Nat} {a s : Nat} {m y4 : Int32} {K : fh_H → Nat → Int32 → Int32 → Int32 → Option fh_H} {e1 e2 tk : Bool} (hs : z_X5_isSure SA (I, J, R) 43 = some (0, (I, J', R))) (hs2 : s < 1000) (i6 : I 43 6 = nI s) (i7 : I 43 7 = bI e1) (i8 : I 43 8 = bI e2) (i9 : I 43 9 = bI tk) : z_X5_run_b62 SA 43 K (I, J, R) a m y4 = if 100 ≤ s then K (I, J', R) a m 3 (y4 + 1) else z_X5_run_b119 SA 43 K (I, J', R) a m y4 (bI (nxf e1 e2 tk)) 43 := by
  unfold z_X5_run_b62
  rw [hs, b2_s, if_pos (show (0 : Int32) = 0 from rfl)]
  simp only [i6, i7, i8, i9]
  by_cases c : 100 ≤ s
  · rw [if_neg (show ¬ nI s < (100 : Int32) from nI_nlt (b := 100) c (by omega)), if_pos c, let_e]
  · rw [if_pos (show nI s < (100 : Int32) from nI_lt (b := 100) (by omega) (by omega)), if_neg c]
    cases e1 <;> cases e2 <;> cases tk <;> rfl
theorem a_step {I : Nat → Nat → Int32} {J : Nat → Nat → Int64} {R : Nat → Nat → Option Nat} (hR : RA R) {a f most : Nat} {y4 : Int32} {two : Bool} {X Y : List Int32 × Int32} {A B : H4} {x y s : Nat} {e1 e2 tk : Bool} {out : List rT} (ha : rwA a) (hy4 : ¬ (200 : Int32) ≤ y4) (hmost : most ≤ 60) (hout : outA I a out) (hlt : out.length < most) (h : rkA I J R (A, B, x, y, s, e1, e2, tk)) (ok : rOK two X Y (A, B, x, y, s, e1, e2, tk)) (hX : srcA I R a 2 X) (hY : two = true → srcA I R a 3 Y) :
    ∃ I' J' R', z_X5_run_b5 SA 43 (f + 1) (I, J, R) a (nI most) 4 y4 = z_X5_run_b5 SA 43 f (I', J', R') a (nI most) (if (r1 X Y A B x y s e1 e2 tk).1 = 5 then 4 else (r1 X Y A B x y s e1 e2 tk).1) (y4 + 1) ∧ aF a I I' ∧ RA R' ∧ (∀ b j, b ≠ 43 → R' b j = R b j) ∧ R' 43 2 = R 43 2 ∧ R' 43 3 = R 43 3 ∧ I' 43 4 = nI (r1 X Y A B x y s e1 e2 tk).2.2.2.1 ∧ I' 43 5 = nI (r1 X Y A B x y s e1 e2 tk).2.2.2.2.1 ∧ ((r1 X Y A B x y s e1 e2 tk).1 = 4 ∨ (r1 X Y A B x y s e1 e2 tk).1 = 5 → rkA I' J' R' (r1 X Y A B x y s e1 e2 tk).2) ∧ outA I' a (if (r1 X Y A B x y s e1 e2 tk).1 = 5 then out ++ [((fd A.1 B.1).toInt32, nI x, nI y)] else out) ∧ hw R' := by
  have ok0 := ok
  obtain ⟨hA, hB, hx, hy, hs, -, -, hsing⟩ := ok
  have hX60 : X.1.length ≤ 60 := by obtain ⟨b, -, -, -, -, q⟩ := hX; exact q
  have hy1 : y < 1000 := by
    cases two
    · have := (hsing rfl).2.1; omega
    · have := hy rfl; obtain ⟨b, -, -, -, -, q⟩ := hY rfl; omega
  have hsure := a_sure h (show x < 1000 by omega) hy1
  have h0 := h
  obtain ⟨u, w, huw, r0, r1', jA, jB, i4, i5, i6, i7, i8, i9⟩ := h
  obtain ⟨ku, kw, u43, w43, uw⟩ := kuw huw
  dsimp only at jA jB i4 i5 i6 i7 i8 i9
  have k0 := (rwA_k ha).1
  have h43 := rw43 ha
  have jB0 : J w 0 = B.1 := by rw [← jB]; rfl
  rw [z_X5_run_b5, if_neg hy4, if_pos (show (4 : Int32) = 4 from rfl), k0, ck_t]
  simp only [hout.1, i7, i8, r1', b1_s, kw, ck_t, jB0]
  rw [if_pos (nI_lt hlt (by omega))]
  unfold r1
  by_cases c1 : e1 = true ∧ e2 = true ∧ B.1 = 0
  · rw [if_pos c1, if_neg (by rw [c1.1]; decide), if_neg (by rw [c1.2.1]; decide), if_pos c1.2.2, let_e]
    exact ⟨I, J, R, rfl, aF.rf, hR, fun _ _ _ => rfl, rfl, rfl, i4, i5, fun q => q.elim (fun q => absurd q n14) (fun q => absurd q n15), hout, rkA_hw h0⟩
  rw [if_neg c1]
  have e62 : (if bI e1 = 0 then z_X5_run_b62 SA 43 (z_X5_run_b5 SA 43 f) (I, J, R) a (nI most) y4 else if bI e2 = 0 then z_X5_run_b62 SA 43 (z_X5_run_b5 SA 43 f) (I, J, R) a (nI most) y4 else if B.1 = 0 then fh_let (y4 + 1) fun v13 => z_X5_run_b5 SA 43 f (I, J, R) a (nI most) 1 v13 else z_X5_run_b62 SA 43 (z_X5_run_b5 SA 43 f) (I, J, R) a (nI most) y4) = z_X5_run_b62 SA 43 (z_X5_run_b5 SA 43 f) (I, J, R) a (nI most) y4 := by
    cases e1
    · rfl
    · cases e2
      · rfl
      · by_cases q : B.1 = 0
        · exact absurd ⟨rfl, rfl, q⟩ c1
        · rw [if_neg (by decide), if_neg (by decide), if_neg q]
  rw [e62]
  obtain ⟨J1, es, hF1, hq1⟩ := hsure
  have h1 := rkA_J h0 hF1
  by_cases c2 : sur A B x y e1 e2 = true
  · rw [if_pos c2]
    rw [c2] at es
    have e0 : z_X5_run_b62 SA 43 (z_X5_run_b5 SA 43 f) (I, J, R) a (nI most) y4 = fh_b2 (z_X5_letOut SA (I, J1, R) 43 a) (fun r11 h12 => z_X5_run_b5 SA 43 f h12 a (nI most) r11 (y4 + 1)) := by
      unfold z_X5_run_b62
      rw [es, b2_s, if_neg (by decide), k0, ck_t]; rfl
    rw [e0]
    by_cases c3 : (big (fd A.1 B.1) || byL A B (fd A.1 B.1)) = true
    · rw [if_pos c3]
      obtain ⟨J2, e2'⟩ := a_let2 (a := a) h1 (hq1 c2) hA c3
      rw [e2', b2_s]
      exact ⟨I, J2, R, rfl, aF.rf, hR, fun _ _ _ => rfl, rfl, rfl, i4, i5, fun q => q.elim (fun q => absurd q n24) (fun q => absurd q n25), hout, rkA_hw h0⟩
    · rw [if_neg c3]
      rw [Bool.not_eq_true] at c3
      obtain ⟨J2, R2, e2', k2, hR2, f2, g2, g3⟩ := a_let4 hR ha h1 (hq1 c2) hA hout.1 (show out.length < 60 by omega) c3
      rw [e2', b2_s]
      refine ⟨_, J2, R2, rfl, addA_F.trans (aF.rf.up (Or.inr (Or.inr rfl))), hR2, f2, g2, g3, ?_, ?_, fun _ => k2, outA_add hout ha, rkA_hw k2⟩
      · obtain ⟨_, _, _, _, _, _, _, q4, q5, _⟩ := k2; exact q4
      · obtain ⟨_, _, _, _, _, _, _, q4, q5, _⟩ := k2; exact q5
  rw [if_neg c2]
  have c2' : sur A B x y e1 e2 = false := by rw [← Bool.not_eq_true]; exact c2
  rw [c2'] at es
  rw [a_62no es (show s < 1000 by omega) i6 i7 i8 i9]
  by_cases c3 : 100 ≤ s
  · rw [if_pos c3, if_pos c3]
    exact ⟨I, J1, R, rfl, aF.rf, hR, fun _ _ _ => rfl, rfl, rfl, i4, i5, fun q => q.elim (fun q => absurd q n34) (fun q => absurd q n35), hout, rkA_hw h0⟩
  rw [if_neg c3, if_neg c3, a_119]
  by_cases c4 : nxf e1 e2 tk = true
  · rw [if_pos c4, if_pos c4]
    have he := nxf_yes c4
    subst he
    have h2 : rkA (fh_up I 43 9 1) J1 R (A, B, x, y, s, false, e2, true) := by
      obtain ⟨u, w, huw, r0, r1, jA, jB, -⟩ := h1
      refine ⟨u, w, huw, r0, r1, jA, jB, ?_, ?_, ?_, ?_, ?_, up_s _ _ _ _⟩ <;> rw [up_k _ _ _ _ (by decide)] <;> assumption
    have fa : aF a I (fh_up I 43 9 1) := aF.rf.up (Or.inr (Or.inr rfl))
    obtain ⟨I2, J2, e2', f2, g4, g5, g6⟩ := a_readF hR h2 hA hB (srcA_F fa ha rfl hX) hx
    rw [e2', b2_s]
    have fe : ∀ b j, b ≠ 43 → I2 b j = I b j := fun b j hb => by rw [f2 b j hb, up_a _ _ _ _ hb]
    have hne : ¬ (rX X A B x y s false e2).1 = 5 := by
      unfold rX
      split
      · dsimp only; split <;> decide
      · split <;> (dsimp only; decide)
    rw [if_neg hne, if_neg hne]
    exact ⟨I2, J2, R, rfl, aF_43 fe, hR, fun _ _ _ => rfl, rfl, rfl, g4, g5, fun q => g6 (q.elim id (fun q => absurd q hne)), outA_cong hout fe ha, rkA_hw h0⟩
  · rw [if_neg c4, if_neg c4]
    obtain ⟨he, ht⟩ := nxf_no ok0 c1 c2 c4
    subst he
    subst ht
    have h2 : rkA (fh_up I 43 9 0) J1 R (A, B, x, y, s, e1, false, false) := by
      obtain ⟨u, w, huw, r0, r1, jA, jB, -⟩ := h1
      refine ⟨u, w, huw, r0, r1, jA, jB, ?_, ?_, ?_, ?_, ?_, up_s _ _ _ _⟩ <;> rw [up_k _ _ _ _ (by decide)] <;> assumption
    have fa : aF a I (fh_up I 43 9 0) := aF.rf.up (Or.inr (Or.inr rfl))
    obtain ⟨I2, J2, e2', f2, g4, g5, g6⟩ := a_readS hR h2 hA hB (srcA_F fa ha rfl (hY rfl)) (hy rfl)
    rw [e2', b2_s]
    have fe : ∀ b j, b ≠ 43 → I2 b j = I b j := fun b j hb => by rw [f2 b j hb, up_a _ _ _ _ hb]
    have hne : ¬ (rY Y A B x y s e1 false).1 = 5 := by
      unfold rY
      split
      · dsimp only; split <;> decide
      · split <;> (dsimp only; decide)
    rw [if_neg hne, if_neg hne]
    exact ⟨I2, J2, R, rfl, aF_43 fe, hR, fun _ _ _ => rfl, rfl, rfl, g4, g5, fun q => g6 (q.elim id (fun q => absurd q hne)), outA_cong hout fe ha, rkA_hw h0⟩
theorem a_158 {I : Nat → Nat → Int32} {J : Nat → Nat → Int64} {R : Nat → Nat → Option Nat} {a x y : Nat} {c : Int32} {out : List rT} (ha : rwA a) (hout : outA I a out) (i4 : I 43 4 = nI x) (i5 : I 43 5 = nI y) : ∃ I', z_X5_run_b158 SA 43 (I, J, R) a c a = some (I', J, R) ∧ aF a I I' ∧ rowA3 I' a (out, c, nI (x + y)) := by
  have h43 := rw43 ha
  have k0 := (rwA_k ha).1
  refine ⟨fh_up (fh_up I a 7 c) a 8 (nI (x + y)), ?_, (aF.rf.up (aS_7 a)).up (aS_8 a), ⟨⟨?_, ?_, ?_, ?_⟩, ?_, up_s _ _ _ _⟩⟩
  · unfold z_X5_run_b158
    rw [k0, ck_t]
    simp (disch := omega) only [ck_t, let_e, sI_e, up_a, i4, i5, nI_add]
  · rw [up_k _ _ _ _ (by decide), up_k _ _ _ _ (by decide)]; exact hout.1
  · exact lst_cong hout.2.1 (fun j _ _ => by simp (disch := omega) only [up_a])
  · exact lst_cong hout.2.2.1 (fun j _ _ => by simp (disch := omega) only [up_a])
  · exact lst_cong hout.2.2.2 (fun j _ _ => by simp (disch := omega) only [up_a])
  · rw [up_k _ _ _ _ (by decide), up_s]
theorem r1_c {two : Bool} {X Y : List Int32 × Int32} {A B : H4} {x y s : Nat} {e1 e2 tk : Bool} (h : rOK two X Y (A, B, x, y, s, e1, e2, tk)) (c4 : ¬ (r1 X Y A B x y s e1 e2 tk).1 = 4) (c5 : ¬ (r1 X Y A B x y s e1 e2 tk).1 = 5) : (r1 X Y A B x y s e1 e2 tk).1 = 1 ∨ (r1 X Y A B x y s e1 e2 tk).1 = 2 ∨ (r1 X Y A B x y s e1 e2 tk).1 = 3 :=
  (r1_ok h).elim id (fun q => q.elim (fun q => absurd q.1 c4) (fun q => absurd q.1 c5))
theorem a_run5 {a most : Nat} (ha : rwA a) (hmost : most ≤ 60) {two : Bool} {X Y : List Int32 × Int32} : ∀ (n fuel : Nat) (I : Nat → Nat → Int32) (J : Nat → Nat → Int64) (R : Nat → Nat → Option Nat) (σ : rS) (out : List rT), n + 1 < fuel → n ≤ 200 → RA R → rkA I J R σ → rOK two X Y σ → srcA I R a 2 X → (two = true → srcA I R a 3 Y) → outA I a out → out.length ≤ most →
    ∃ I' J' R', z_X5_run_b5 SA 43 fuel (I, J, R) a (nI most) 4 (nI (200 - n)) = some (I', J', R') ∧ aF a I I' ∧ RA R' ∧ (∀ b j, b ≠ 43 → R' b j = R b j) ∧ rowA3 I' a (al X Y most n σ out) ∧ hw R' := by
  intro n
  induction n with
  | zero =>
    intro fuel I J R σ out hf hn hR h ok hX hY hout hom
    obtain ⟨f, rfl⟩ : ∃ f, fuel = f + 1 := ⟨fuel - 1, by omega⟩
    obtain ⟨A, B, x, y, s, e1, e2, tk⟩ := σ
    have hh := rkA_hw h
    obtain ⟨_, _, _, _, _, _, _, i4, i5, _⟩ := h
    obtain ⟨I', e, hF, hr⟩ := a_158 (J := J) (R := R) (c := 3) ha hout i4 i5
    refine ⟨I', J, R, ?_, hF, hR, fun _ _ _ => rfl, hr, hh⟩
    rw [z_X5_run_b5, if_pos (show (200 : Int32) ≤ nI (200 - 0) by decide), if_pos (show (4 : Int32) = 4 from rfl)]
    exact e
  | succ n ih =>
    intro fuel I J R σ out hf hn hR h ok hX hY hout hom
    obtain ⟨f, rfl⟩ : ∃ f, fuel = f + 1 := ⟨fuel - 1, by omega⟩
    obtain ⟨f', rfl⟩ : ∃ f', f = f' + 1 := ⟨f - 1, by omega⟩
    obtain ⟨A, B, x, y, s, e1, e2, tk⟩ := σ
    have hy4 : ¬ (200 : Int32) ≤ nI (200 - (n + 1)) := nI_ge (b := 200) (by omega) (by omega)
    have hy5 : nI (200 - (n + 1)) + 1 = nI (200 - n) := by rw [nI_1]; congr 1; omega
    rw [al]
    by_cases hlt : out.length < most
    · rw [if_neg (by omega)]
      obtain ⟨I1, J1, R1, e, hF, hR1, fR, g2, g3, q4, q5, hk, hout1, hh1⟩ := a_step (f := f' + 1) hR ha hy4 hmost hout hlt h ok hX hY
      rw [e, hy5]
      have hstp := r1_ok ok
      by_cases c4 : (r1 X Y A B x y s e1 e2 tk).1 = 4
      · have hne : ¬ (r1 X Y A B x y s e1 e2 tk).1 = 5 := by rw [c4]; decide
        rw [if_neg hne] at hout1 ⊢
        rw [c4]
        dsimp only
        rw [if_pos c4]
        have ok1 : rOK two X Y (r1 X Y A B x y s e1 e2 tk).2 := by
          rcases hstp with q | q | q
          · rw [c4] at q; exact absurd q (by decide)
          · exact q.2.1
          · exact absurd q.1 hne
        obtain ⟨I2, J2, R2, e2', hF2, hR2, fR2, hr⟩ := ih (f' + 1) I1 J1 R1 _ out (by omega) (by omega) hR1 (hk (Or.inl c4)) ok1 (srcA_F hF ha g2 hX) (fun t => srcA_F hF ha g3 (hY t)) hout1 hom
        exact ⟨I2, J2, R2, e2', hF.trans hF2, hR2, fun b j hb => (fR2 b j hb).trans (fR b j hb), hr⟩
      · by_cases c5 : (r1 X Y A B x y s e1 e2 tk).1 = 5
        · rw [if_pos c5] at hout1 ⊢
          dsimp only
          rw [if_neg c4, if_pos c5]
          have ok1 : rOK two X Y (r1 X Y A B x y s e1 e2 tk).2 := by
            rcases hstp with q | q | q
            · rw [c5] at q; exact absurd q (by decide)
            · exact absurd q.1 c4
            · exact q.2.1
          obtain ⟨I2, J2, R2, e2', hF2, hR2, fR2, hr⟩ := ih (f' + 1) I1 J1 R1 _ _ (by omega) (by omega) hR1 (hk (Or.inr c5)) ok1 (srcA_F hF ha g2 hX) (fun t => srcA_F hF ha g3 (hY t)) hout1 (by rw [List.length_append, List.length_singleton]; omega)
          exact ⟨I2, J2, R2, e2', hF.trans hF2, hR2, fun b j hb => (fR2 b j hb).trans (fR b j hb), hr⟩
        · rw [if_neg c5] at hout1 ⊢
          dsimp only
          rw [if_neg c4, if_neg c5, a_fin c4]
          obtain ⟨I2, e2', hF2, hr⟩ := a_158 (J := J1) (R := R1) (c := (r1 X Y A B x y s e1 e2 tk).1) ha hout1 q4 q5
          exact ⟨I2, J1, R1, e2', hF.trans hF2, hR1, fR, hr, hh1⟩
    · rw [if_pos (by omega)]
      have hh := rkA_hw h
      obtain ⟨_, _, _, _, _, _, _, i4, i5, _⟩ := h
      obtain ⟨I2, e2', hF2, hr⟩ := a_158 (J := J) (R := R) (c := 0) ha hout i4 i5
      refine ⟨I2, J, R, ?_, hF2, hR, fun _ _ _ => rfl, hr, hh⟩
      rw [z_X5_run_b5, if_neg hy4, if_pos (show (4 : Int32) = 4 from rfl), (rwA_k ha).1, ck_t]
      simp only [hout.1]
      rw [if_neg (nI_nlt (by omega) (by omega)), let_e, a_fin (by decide)]
      exact e2'
