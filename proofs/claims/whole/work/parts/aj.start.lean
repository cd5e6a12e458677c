/-! the beginning -/
def F00 : Rcp := fun _ j => if j = 2 then 1 else 0
theorem F00_ok (r : Nat) : okr (F00 r) r := Or.inl ⟨rfl, show (0 : Int64) ≤ (1 : Int32).toInt64 by decide, show (-9999 : Int) ≤ (0 : Int32).toInt by decide⟩
theorem F00_mk {r : Nat} {g t : Nat → Int32} (h0 : g 0 = 0) (h3 : g 3 = 0) (h4 : g 4 = 1) : mkr (F00 r) g t :=
  ⟨h0, fun _ => ⟨h3, h4⟩, fun z => absurd z (show ¬ (0 : Int32) = 1 by decide), fun z => absurd z (show ¬ (0 : Int32) = 2 by decide), fun z => absurd z (show ¬ (0 : Int32) = 3 by decide), fun z => absurd z (show ¬ (0 : Int32) = 4 by decide)⟩
set_option maxRecDepth 100000 in
theorem iA_rows : ∀ r, r < 10 → hA0.2.2 (58 + 6 * r) 4 = some (62 + 6 * r) ∧ hA0.1 (62 + 6 * r) 0 = 0 ∧ hA0.1 (62 + 6 * r) 3 = 0 ∧ hA0.1 (62 + 6 * r) 4 = 1 ∧ hA0.1 (58 + 6 * r) 0 = nI r ∧ hA0.1 (58 + 6 * r) 5 = 1 := by decide +kernel
set_option maxRecDepth 100000 in
theorem iA_his : (∀ x, x < 16 → hA0.2.2 10 x = some (11 + 2 * x)) ∧ hA0.1 8 2 = nI 0 ∧ hA0.1 8 3 = nI 0 ∧ hA0.2.2 43 0 = some 44 ∧ hA0.2.2 43 1 = some 45 ∧ hA0.1 48 6 = nI 0 ∧ hA0.1 48 8 = -1 ∧ hA0.1 56 1 = nI 0 := by decide +kernel
set_option maxRecDepth 100000 in
theorem iA_k0 : fh_kq iAp.1 0 11 = true := by decide +kernel
def mu0 (x : Nat) : Nat := if x < 16 then 11 + 2 * x else 62 + 6 * (x - 16)
theorem mu0_1 {x : Nat} (h : x < 16) : mu0 x = 11 + 2 * x := if_pos h
theorem mu0_2 {x : Nat} (h : ¬ x < 16) : mu0 x = 62 + 6 * (x - 16) := if_neg h
theorem invA_0 : invA hA0.1 hA0.2.2 0 (fun _ => F00) 0 (fun _ => 0) (-1) 0 (fun _ => 0) := by
  obtain ⟨q1, q2, q3, q4, q5, q6, q7, q8⟩ := iA_his
  refine ⟨RA_0, ⟨44, 45, Or.inl ⟨rfl, rfl⟩, q4, q5⟩, fun r hr => ?_, ⟨mu0, 0, by decide, q2, q3, fun x hx => ?_, fun r hr => ?_, fun x hx => ?_, fun x y hx hy e => ?_, fun k hk => absurd hk (Nat.not_lt_zero _)⟩, ⟨q6, fun j hj => absurd hj (Nat.not_lt_zero _), q7⟩, q8, fun j hj => absurd hj (Nat.not_lt_zero _)⟩
  · obtain ⟨p1, p2, p3, p4, p5, p6⟩ := iA_rows r hr
    exact ⟨62 + 6 * r, p1, Or.inr (Or.inr ⟨r, hr, rfl⟩), F00_mk p2 p3 p4, F00_ok r, p5, Or.inr p6⟩
  · rw [mu0_1 hx]; exact q1 x hx
  · rw [mu0_2 (by omega), show 16 + r - 16 = r by omega]; exact (iA_rows r hr).1
  · by_cases c : x < 16
    · rw [mu0_1 c]; exact Or.inr (Or.inl ⟨x, c, rfl⟩)
    · rw [mu0_2 c]; exact Or.inr (Or.inr ⟨x - 16, by omega, rfl⟩)
  · by_cases c : x < 16
    · by_cases d : y < 16
      · rw [mu0_1 c, mu0_1 d] at e; omega
      · rw [mu0_1 c, mu0_2 d] at e; omega
    · by_cases d : y < 16
      · rw [mu0_2 c, mu0_1 d] at e; omega
      · rw [mu0_2 c, mu0_2 d] at e; omega
theorem b_154 : ∀ (m fuel : Nat) (I : Nat → Nat → Int32) (J : Nat → Nat → Int64) (k : Nat), m < fuel → k + m = 10 → (∀ r, r < 10 → ∀ j, j < 109 → I 1 (109 * r + j) = if r < k then F00 r j else 0) → ∃ I1 J1, z_X12_init_b154 fuel 0 TB (I, J, rB) (nI k) = some (TB, (I1, J1, rB)) ∧ rowsB I1 F00 ∧ ∀ j, ¬ (15 ≤ j ∧ j ≤ 24) → I1 0 j = I 0 j := by
  intro m
  induction m with
  | zero =>
    intro fuel I J k hf hk h
    obtain ⟨f, rfl⟩ : ∃ f, fuel = f + 1 := ⟨fuel - 1, by omega⟩
    obtain rfl : k = 10 := by omega
    have hrec : ∀ r, r < 10 → ∀ j, j < 109 → I 1 (109 * r + j) = F00 r j := fun r hr j hj => by rw [h r hr j hj, if_pos hr]
    obtain ⟨I', J', e, hl, hd⟩ := b_layAll (J := J) (fun r _ => F00_ok r) hrec
    refine ⟨I', J', ?_, ⟨fun r hr j hj => by rw [hl _ _ (by omega)]; exact hrec r hr j hj, hd⟩, fun j hj => hl _ _ (by omega)⟩
    rw [z_X12_init_b154, kB_0, ck_N, if_pos (show (10 : Int32) ≤ nI 10 by decide), e, b1_N]
  | succ m ih =>
    intro fuel I J k hf hk h
    obtain ⟨f, rfl⟩ : ∃ f, fuel = f + 1 := ⟨fuel - 1, by omega⟩
    have e1 : z_X12_put TB (I, J, rB) 0 (nI k) 2 1 = some (fh_up I 1 (109 * k + 2) 1, J, rB) := b_put (j := 2) (by omega) (by decide) 1
    obtain ⟨I1, J1, e, q1, q2⟩ := ih f (fh_up I 1 (109 * k + 2) 1) J (k + 1) (by omega) (by omega) (fun r hr j hj => by
      by_cases c : 109 * r + j = 109 * k + 2
      · have c1 : r = k := by omega
        have c2 : j = 2 := by omega
        rw [c, up_s, if_pos (by omega), c2]; rfl
      · rw [up_k _ _ _ _ c, h r hr j hj]
        by_cases c1 : r < k
        · rw [if_pos c1, if_pos (by omega)]
        · rw [if_neg c1]
          by_cases c2 : r < k + 1
          · have c3 : ¬ j = 2 := fun z => c (by omega)
            rw [if_pos c2]
            exact (if_neg c3).symm
          · rw [if_neg c2])
    refine ⟨I1, J1, ?_, q1, fun j hj => by rw [q2 j hj, up_a _ _ _ _ (by decide)]⟩
    rw [z_X12_init_b154, kB_0, ck_N, if_neg (show ¬ (10 : Int32) ≤ nI k from nI_ge (b := 10) (by omega) (by omega)), e1, b1_N, let_N, nI_1, e]
theorem kB0_1 (j : Nat) : kB0.1 1 j = 0 := rfl
theorem law_gen {xs : Nat → Int32} {L : Nat} {A : fh_S × fh_H} {k : fh_H} (eA : z_X11_init (fh_push z_S0 11 0) (fh_z z_h0 z_S0.1) 0 = some A) (eB : z_X12_init (fh_push z_S0 12 0) (fh_z z_h0 z_S0.1) 0 = some (TB, k)) (k0 : fh_kq A.1 0 11 = true) (hl : z_law_loop (fh_push A.1 14 1) TB 0 0 A.1.1 xs L 513 (fh_z A.2 A.1.1) k 0 = some ()) : z_law xs L = some () := by
  obtain ⟨S, h⟩ := A
  have k0' : fh_kq S 0 11 = true := k0
  unfold z_law
  rw [let_N, let_N, eA, b2_N, let_N, let_N, eB, b2_N, k0', ck_N, kB_0, ck_N, let_N, let_N]
  exact hl
theorem law_all {xs : Nat → Int32} {L : Nat} (hL : L ≤ 3584) : z_law xs L = some () := by
  obtain ⟨I1, J1, e, q1, q2⟩ := b_154 10 11 kB0.1 kB0.2.1 0 (by omega) (by omega) (fun r hr j hj => by rw [kB0_1, if_neg (Nat.not_lt_zero _)])
  have e' : z_X12_init (fh_push z_S0 12 0) (fh_z z_h0 z_S0.1) 0 = some (TB, (I1, J1, rB)) := init_B.trans e
  have iB : invB I1 0 (fun _ => F00) 0 (fun _ => 0) (-1) 0 (fun _ => 0) := ⟨q1, ⟨(q2 2 (by omega)).trans rfl, Nat.zero_le _, fun k hk => absurd hk (Nat.not_lt_zero _)⟩, ⟨(q2 35 (by omega)).trans rfl, fun j hj => absurd hj (Nat.not_lt_zero _), (q2 43 (by omega)).trans rfl⟩, (q2 32 (by omega)).trans rfl, fun j hj => absurd hj (Nat.not_lt_zero _)⟩
  have iv : Inv hA0 (I1, J1, rB) := ⟨rfl, 0, fun _ => F00, 0, fun _ => 0, -1, 0, fun _ => 0, ⟨fun k _ r _ => F00_ok r, Nat.zero_le _, fun _ => Nat.zero_lt_succ 255, Nat.zero_le _⟩, invA_0, iB⟩
  have hl := law_loop (xs := xs) hL 513 0 hA0 (I1, J1, rB) (by omega) (by omega) iv
  have hl2 : z_law_loop SA TB 0 0 iAp.1.1 xs L 513 hA0 (I1, J1, rB) 0 = some () := by
    rw [iA_n]
    exact hl
  exact law_gen iA_e e' iA_k0 hl2
