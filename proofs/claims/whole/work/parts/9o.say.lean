/-! a row's text -/
theorem fd_low {p q : Int64} (hp : -4000000000 ≤ p.toInt ∧ p.toInt ≤ 4000000000) (hq : 0 < q.toInt) : (p.toInt < 0 → p.toInt ≤ (fd p q).toInt) ∧ (0 ≤ p.toInt → 0 ≤ (fd p q).toInt) ∧ (fd p q).toInt ≤ 4000000000 := by
  obtain ⟨f1, f2⟩ := fd_pos (p := p) (q := q) (by omega) hq
  generalize (fd p q).toInt = v at *
  generalize q.toInt = Q at *
  refine ⟨fun h => ?_, fun h => ?_, ?_⟩
  · rcases Int.lt_or_le v p.toInt with z | z
    · have := Int.mul_le_mul_of_nonneg_right (show v + 1 ≤ p.toInt by omega) (show 0 ≤ Q by omega)
      have h2 := Int.mul_le_mul_of_nonneg_left (show 1 ≤ Q by omega) (show 0 ≤ -p.toInt by omega)
      rw [Int.add_mul, Int.one_mul] at this
      rw [Int.mul_one, Int.neg_mul] at h2
      omega
    · exact z
  · rcases Int.lt_or_le v 0 with z | z
    · have := Int.mul_le_mul_of_nonneg_right (show v + 1 ≤ 0 by omega) (show 0 ≤ Q by omega)
      rw [Int.add_mul, Int.one_mul, Int.zero_mul] at this
      omega
    · exact z
  · rcases Int.lt_or_le 4000000000 v with z | z
    · have := Int.mul_le_mul_of_nonneg_left (show 1 ≤ Q by omega) (show 0 ≤ v by omega)
      rw [Int.mul_one] at this
      omega
    · exact z
def low0 (l : List Int32) : Prop := 0 < l.length → -1000000000 ≤ (l.getD 0 0).toInt
theorem dv_low {n : Nat} {p q : Int64} (hp : -9999 ≤ p.toInt ∧ p.toInt ≤ 2147483647) (hq : 0 ≤ q.toInt ∧ q.toInt ≤ 2147483647) : low0 (dv n p q) := by
  intro hl
  cases n with
  | zero => exact absurd hl (Nat.not_lt_zero _)
  | succ n =>
    rw [dv] at hl ⊢
    by_cases c : q = 0
    · rw [if_pos c] at hl; exact absurd hl (Nat.not_lt_zero _)
    rw [if_neg c]
    have q0 : 0 < q.toInt := by
      have : q.toInt ≠ 0 := fun e => c (Int64.toInt_inj.mp (by rw [e]; rfl))
      omega
    obtain ⟨f1, f2, f3⟩ := fd_low (p := p) (q := q) (by omega) q0
    have f4 : (fd p q).toInt ≤ 2147483647 := by
      obtain ⟨g1, g2⟩ := fd_pos (p := p) (q := q) (by omega) q0
      rcases Int.lt_or_le (fd p q).toInt 0 with z | z
      · omega
      · have := Int.mul_le_mul_of_nonneg_left (show 1 ≤ q.toInt by omega) z
        rw [Int.mul_one] at this
        omega
    show -1000000000 ≤ (fd p q).toInt32.toInt
    rw [Int64.toInt_toInt32, Int.bmod_eq_of_le (by omega) (by omega)]
    omega
def lowT (l : List rT) : Prop := ∀ k, k < l.length → -1000000000 ≤ (l.getD k (0, 0, 0)).1.toInt
theorem al_low (X Y : List Int32 × Int32) (most : Nat) : ∀ (n : Nat) (σ : rS) (out : List rT), lowT out → lowT (al X Y most n σ out).1 := by
  intro n
  induction n with
  | zero =>
    intro σ out h
    obtain ⟨A, B, x, y, s, e1, e2, tk⟩ := σ
    exact h
  | succ n ih =>
    intro σ out h
    obtain ⟨A, B, x, y, s, e1, e2, tk⟩ := σ
    rw [al]
    by_cases c : most ≤ out.length
    · rw [if_pos c]; exact h
    rw [if_neg c]
    have h5 : (r1 X Y A B x y s e1 e2 tk).1 = 5 → big (fd A.1 B.1) = false := by
      unfold r1 rX rY
      by_cases c1 : e1 = true ∧ e2 = true ∧ B.1 = 0
      · rw [if_pos c1]; intro h; exact absurd h (show ¬ (1 : Int32) = 5 by decide)
      rw [if_neg c1]
      by_cases c2 : sur A B x y e1 e2 = true
      · rw [if_pos c2]
        by_cases c3 : (big (fd A.1 B.1) || byL A B (fd A.1 B.1)) = true
        · rw [if_pos c3]; intro h; exact absurd h (show ¬ (2 : Int32) = 5 by decide)
        · intro _; exact (Bool.or_eq_false_iff.mp (Bool.eq_false_iff.mpr c3)).1
      · rw [if_neg c2]
        intro h
        exfalso
        revert h
        repeat' split
        all_goals (dsimp only; decide)
    generalize r1 X Y A B x y s e1 e2 tk = w at h5 ⊢
    obtain ⟨c', t⟩ := w
    dsimp only at h5 ⊢
    by_cases c4 : c' = 4
    · rw [if_pos c4]; exact ih _ _ h
    rw [if_neg c4]
    by_cases c5 : c' = 5
    · rw [if_pos c5]
      refine ih _ _ (fun k hk => ?_)
      rw [List.length_append, List.length_singleton] at hk
      by_cases ck : k = out.length
      · rw [ck]
        have : (out ++ [((fd A.1 B.1).toInt32, nI x, nI y)]).getD out.length (0, 0, 0) = ((fd A.1 B.1).toInt32, nI x, nI y) := by simp
        rw [this]
        dsimp only
        have := big_rng (h5 c5)
        rw [q32 (h5 c5)]
        omega
      · have : (out ++ [((fd A.1 B.1).toInt32, nI x, nI y)]).getD k (0, 0, 0) = out.getD k (0, 0, 0) := by
          rw [List.getD_eq_getElem?_getD, List.getD_eq_getElem?_getD, List.getElem?_append_left (by omega)]
        rw [this]
        exact h k (by omega)
    · rw [if_neg c5]; exact h
theorem bas_low {l : List Int32} {st : Int32} (h : low0 l) : low0 (dsr (bas l st)).1 := by
  rw [show (dsr (bas l st)).1 = l from bas_1 l st]; exact h
theorem low_T {D : Dat} (h : lowT D.1) : low0 (dsr D).1 := fun h2 => by
  rw [dsr_len] at h2
  show -1000000000 ≤ ((D.1.map (fun t : rT => t.1)).getD 0 0).toInt
  rw [getD_map1 _ h2]
  exact h 0 h2
theorem dn_low {f : Nat → Int32} {r : Nat} {L : Nat → Dat} (ok : okr f r) : low0 (dsr (dn f L)).1 := by
  have i32 : ∀ x : Int32, -2147483648 ≤ x.toInt64.toInt ∧ x.toInt64.toInt ≤ 2147483647 := fun x => by
    rw [Int32.toInt_toInt64]
    have h1 := x.toInt_lt
    have h2 := x.le_toInt
    omega
  have nil : lowT ([] : List rT) := fun k hk => absurd hk (Nat.not_lt_zero _)
  unfold dn
  rcases ok with ⟨k0, hq, hp⟩ | ⟨k0, hRo⟩ | ⟨k0, a, g, ha', hg, hag, htl⟩ | ⟨k0, -⟩ | ⟨k0, -⟩
  · rw [if_pos k0]
    have h1 := i32 (f 1)
    have h2 := i32 (f 2)
    have h3 : 0 ≤ (f 2).toInt64.toInt := Int64.le_iff_toInt_le.mp hq
    have h4 : (f 1).toInt64.toInt = (f 1).toInt := Int32.toInt_toInt64 _
    exact bas_low (dv_low (by omega) (by omega))
  · rw [if_neg (by rw [k0]; decide), if_pos k0]
    apply bas_low
    unfold rtD
    obtain ⟨d, hd, ed⟩ := okR_d hRo
    by_cases hs : wr (f 2).toInt64 * wr (f 2).toInt64 = (f 2).toInt64
    · rw [if_pos hs]
      dsimp only
      obtain ⟨t, et, tq⟩ := wr_sq (D := d) (by omega)
      rw [ed, et]
      have t1 : t ≤ 100 := by
        rcases Nat.lt_or_ge 100 t with z | z
        · have := Nat.mul_le_mul (show 101 ≤ t by omega) (show 101 ≤ t by omega)
          have := tq.1
          omega
        · exact z
      have e1 := l64 (n := t) (by omega)
      have p1 := hRo.1
      have q1 := hRo.2.2.1
      have eP : (f 1).toInt64.toInt = (f 1).toInt := Int32.toInt_toInt64 _
      have eQ : (f 3).toInt64.toInt = (f 3).toInt := Int32.toInt_toInt64 _
      have e2 : ((f 1).toInt64 + lN t).toInt = (f 1).toInt + t := by rw [i64_add (by omega) (by omega), eP, e1]
      have e3 : (-((f 1).toInt64 + lN t)).toInt = -((f 1).toInt + t) := by rw [i64_neg (by omega), e2]
      have e4 : (-(f 3).toInt64).toInt = -(f 3).toInt := by rw [i64_neg (by omega), eQ]
      have z : (0 : Int64).toInt = 0 := rfl
      by_cases c : (0 : Int64) ≤ (f 3).toInt64
      · rw [if_pos c, if_pos c]
        rw [Int64.le_iff_toInt_le, z] at c
        exact dv_low (by omega) (by omega)
      · rw [if_neg c, if_neg c]
        rw [Int64.le_iff_toInt_le, z] at c
        exact dv_low (by omega) (by omega)
    · rw [if_neg hs]
      dsimp only
      intro _
      unfold rtl
      rw [rng_getD _ (show 0 < 60 by omega)]
      obtain ⟨v1, v2⟩ := rtv_rng hRo hs (k := 0) (by omega)
      rw [Int64.toInt_toInt32, Int.bmod_eq_of_le (by omega) (by omega)]
      omega
  · rw [if_neg (by rw [k0]; decide), if_neg (by rw [k0]; decide), if_pos k0]
    apply bas_low
    intro h2
    unfold tlf at h2 ⊢
    rw [ha', hg, nI_clamp (by omega), nI_clamp (by omega)] at h2 ⊢
    rw [tl_len] at h2
    unfold tl
    rw [rng_getD _ h2]
    unfold tla
    obtain ⟨t1, -, t3⟩ := htl
    rw [if_pos (show 0 < a by omega)]
    show -1000000000 ≤ (f 9).toInt
    omega
  · rw [if_neg (by rw [k0]; decide), if_neg (by rw [k0]; decide), if_neg (by rw [k0]; decide), if_pos k0]
    exact low_T (al_low _ _ _ _ _ _ nil)
  · rw [if_neg (by rw [k0]; decide), if_neg (by rw [k0]; decide), if_neg (by rw [k0]; decide), if_neg (by rw [k0]; decide)]
    exact low_T (al_low _ _ _ _ _ _ nil)
theorem rw_low {F : Rcp} (ok : ∀ r, r < 10 → okr (F r) r) {r : Nat} (hr : r < 10) {k : Nat} (hk : k < rwL F r) : -1000000000 ≤ (rwG F r k).toInt := by
  by_cases c : k = 0
  · subst c
    exact dn_low (ok r hr) (by rw [dsr_len]; exact hk)
  · have := rw_pos F ok r hr k (by omega) hk
    omega
/-! figures -/
def fw : Nat → Nat → List Int32
  | 0, _ => []
  | w + 1, m => fw w (m / 10) ++ [nI (48 + m % 10)]
theorem fw_len : ∀ w m, (fw w m).length = w := by
  intro w
  induction w with
  | zero => intro m; rfl
  | succ w ih => intro m; rw [fw, List.length_append, List.length_singleton, ih]
theorem fw_top : ∀ w m, fw (w + 1) m = nI (48 + m / 10 ^ w % 10) :: fw w m := by
  intro w
  induction w with
  | zero => intro m; rw [fw, fw, fw, Nat.pow_zero, Nat.div_one]; rfl
  | succ w ih =>
    intro m
    rw [fw, ih (m / 10), fw, Nat.div_div_eq_div_mul, show 10 * 10 ^ w = 10 ^ (w + 1) by rw [Nat.pow_succ, Nat.mul_comm]]
    rfl
/-- how many figures a number has, less one -/
def wd : Nat → Nat → Nat
  | 0, _ => 0
  | w + 1, m => if m < 10 ^ (w + 1) then wd w m else w + 1
def dg (m : Nat) : List Int32 := fw (wd 9 m + 1) m
theorem wd_le : ∀ w m, wd w m ≤ w := by
  intro w
  induction w with
  | zero => intro m; exact Nat.le_refl _
  | succ w ih =>
    intro m
    rw [wd]
    split
    · have := ih m; omega
    · exact Nat.le_refl _
theorem wd_same : ∀ w m, m < 10 ^ (w + 1) → ∀ v, w ≤ v → wd v m = wd w m := by
  intro w m h v
  induction v with
  | zero => intro hv; obtain rfl : w = 0 := by omega
            rfl
  | succ v ih =>
    intro hv
    by_cases c : w = v + 1
    · rw [c]
    · rw [wd, if_pos (Nat.lt_of_lt_of_le h (Nat.pow_le_pow_right (by omega) (by omega)))]
      exact ih (by omega)
theorem wd_step {m : Nat} (h : 10 ≤ m) : ∀ w, wd (w + 1) m = wd w (m / 10) + 1 := by
  intro w
  induction w with
  | zero => rw [wd, wd, if_neg (by omega)]
  | succ w ih =>
    show (if m < 10 ^ (w + 1 + 1) then wd (w + 1) m else w + 1 + 1) = (if m / 10 < 10 ^ (w + 1) then wd w (m / 10) else w + 1) + 1
    rw [ih]
    have e : m < 10 ^ (w + 1 + 1) ↔ m / 10 < 10 ^ (w + 1) := by
      rw [Nat.div_lt_iff_lt_mul (by omega), Nat.pow_succ]
    by_cases c : m < 10 ^ (w + 1 + 1)
    · rw [if_pos c, if_pos (e.mp c)]
    · rw [if_neg c, if_neg (fun q => c (e.mpr q))]
theorem dg_small {m : Nat} (h : m ≤ 9) : dg m = [nI (48 + m)] := by
  unfold dg
  rw [wd_same 0 m (by omega) 9 (by omega), wd, fw, fw, Nat.mod_eq_of_lt (by omega)]; rfl
theorem dg_big {m : Nat} (h : 10 ≤ m) (hm : m < 10000000000) : dg m = dg (m / 10) ++ [nI (48 + m % 10)] := by
  unfold dg
  have e1 : wd 9 m = wd 8 (m / 10) + 1 := wd_step h 8
  have e2 : wd 9 (m / 10) = wd 8 (m / 10) := wd_same 8 (m / 10) (by omega) 9 (by omega)
  rw [e1, e2, fw]
theorem dg_len (m : Nat) : (dg m).length ≤ 10 ∧ 1 ≤ (dg m).length := by
  unfold dg
  rw [fw_len]
  have := wd_le 9 m
  omega
def nm (v : Int32) : List Int32 := if 0 ≤ v then dg v.toInt.toNat else 45 :: dg (-v.toInt).toNat
theorem nm_len (v : Int32) : (nm v).length ≤ 11 := by
  unfold nm
  split
  · have := dg_len v.toInt.toNat; omega
  · rw [List.length_cons]; have := dg_len (-v.toInt).toNat; omega
def mk1 (k : Nat) : List Int32 := if k = 0 then [] else if k = 1 then [59] else [44]
theorem mk1_len (k : Nat) : (mk1 k).length ≤ 1 := by
  unfold mk1
  split
  · exact Nat.zero_le _
  · split <;> exact Nat.le_refl _
/-! putting signs -/
theorem fed_app {A a k : Nat} {I I' : Nat → Nat → Int32} {t : Nat} {l l' : List Int32} (h : fed A a k I I' t l) (e : l = l') : fed A a k I I' t l' := e ▸ h
theorem a_sign {I0 I : Nat → Nat → Int32} {J : Nat → Nat → Int64} {R : Nat → Nat → Option Nat} (hR : RA R) {l : List Int32} (h : fed 57 56 1 I0 I 0 l) (hl : l.length < 800) (v : Int32) : ∃ I', z_X8_putSign SA (I, J, R) 56 v = some (I', J, R) ∧ fed 57 56 1 I0 I' 0 (l ++ [v]) := by
  have h1 : I 56 1 = nI l.length := by have := h.1; rw [Nat.zero_add] at this; exact this
  have f := fed_snoc (by decide) v h
  rw [Nat.zero_add] at f
  refine ⟨_, ?_, f⟩
  have c0 : ¬ nI l.length < 0 := nI_pos (by omega)
  have c1 : ¬ Int32.ofNat 800 ≤ nI l.length := nI_ge (b := 800) (by omega) (by omega)
  have i1 : fh_in (nI l.length) 800 = true := in_n (by omega) (by omega)
  have k1 : (nI l.length).toNatClampNeg = l.length := nI_clamp (by omega)
  have u1 : fh_up I 57 l.length v 56 1 = nI l.length := by rw [up_a _ _ _ _ (by decide)]; exact h1
  unfold z_X8_putSign
  simp only [h1, c0, if_false, rA_56_0 hR, b1_N, kA_57, ck_N, lA_57, c1, i1, k1, let_N, sI_N, u1, nI_1]
theorem b_wsgn {I0 I : Nat → Nat → Int32} {J : Nat → Nat → Int64} {l : List Int32} (h : fed 15 0 32 I0 I 0 l) (hl : l.length < 900) (v : Int32) : ∃ I', z_X12_writes TB (I, J, rB) 0 v = some (I', J, rB) ∧ fed 15 0 32 I0 I' 0 (l ++ [v]) := by
  have h1 : I 0 32 = nI l.length := by have := h.1; rw [Nat.zero_add] at this; exact this
  have f := fed_snoc (by decide) v h
  rw [Nat.zero_add] at f
  refine ⟨_, ?_, f⟩
  have i1 : fh_in (nI l.length) 900 = true := in_n (by omega) (by omega)
  have k1 : (nI l.length).toNatClampNeg = l.length := nI_clamp (by omega)
  have u1 : fh_up I 15 l.length v 0 32 = nI l.length := by rw [up_a _ _ _ _ (by decide)]; exact h1
  unfold z_X12_writes
  simp only [h1, rB_31, b1_N, kB_N15, ck_N, lB_N15, i1, k1, let_N, sI_N, u1, nI_1]
theorem chr_d : ∀ d, d < 10 → (Int32.toUInt32 ((48 : Int32) + nI d) % 65536).toInt32 = nI (48 + d) := by decide +kernel
theorem p10 : ∀ e, e < 10 → nI (10 ^ e) / 10 = (if e = 0 then 0 else nI (10 ^ (e - 1))) := by decide +kernel
theorem p10_lt {e : Nat} (h : e < 10) : 0 < 10 ^ e ∧ 10 ^ e ≤ 1000000000 := ⟨Nat.pow_pos (by omega), Nat.le_trans (Nat.pow_le_pow_right (by omega) (show e ≤ 9 by omega)) (by decide)⟩
theorem a_fig {m e : Nat} (hm : m < 2 ^ 31) (he : e < 10) : (nI m / nI (10 ^ e)) - (nI m / nI (10 ^ e)) / (10 : Int32) * (10 : Int32) = nI (m / 10 ^ e % 10) := by
  have hp := p10_lt he
  have h1 : m / 10 ^ e ≤ m := Nat.div_le_self _ _
  rw [pk_div hm hp.1 (by omega), show (10 : Int32) = nI 10 from rfl, pk_rem (by omega) (by omega) (by omega)]
theorem a_num21 {I0 : Nat → Nat → Int32} {J : Nat → Nat → Int64} {R : Nat → Nat → Option Nat} (hR : RA R) {m : Nat} (hm : m < 2 ^ 31) : ∀ (w fuel : Nat) (I : Nat → Nat → Int32) (l : List Int32) (bg : Bool), w < fuel → w ≤ 10 → fed 57 56 1 I0 I 0 l → l.length + w < 800 → (bg = false → m < 10 ^ w) → (bg = false → 0 < w) →
    ∃ I', z_X8_putNumber_b21 SA 56 fuel (I, J, R) (nI m) (bI bg) (if w = 0 then 0 else nI (10 ^ (w - 1))) = some (I', J, R) ∧ fed 57 56 1 I0 I' 0 (l ++ (if bg then fw w m else dg m)) := by
  intro w
  induction w with
  | zero =>
    intro fuel I l bg hf hw h hl hb hb0
    obtain ⟨f, rfl⟩ : ∃ f, fuel = f + 1 := ⟨fuel - 1, by omega⟩
    cases bg with
    | false => exact absurd (hb0 rfl) (Nat.lt_irrefl _)
    | true =>
      refine ⟨I, ?_, fed_app h (by rw [if_pos rfl, fw, List.append_nil])⟩
      rw [z_X8_putNumber_b21, if_pos rfl, if_pos (by decide)]
  | succ w ih =>
    intro fuel I l bg hf hw h hl hb hb0
    obtain ⟨f, rfl⟩ : ∃ f, fuel = f + 1 := ⟨fuel - 1, by omega⟩
    have hp := p10_lt (e := w) (by omega)
    have e0 : ¬ nI (10 ^ w) ≤ 0 := nI_nle hp.1 (by omega)
    have e1 : decide (¬ nI (10 ^ w) = 0) = true := decide_eq_true (nI_ne0 hp.1 (by omega))
    have e2 := a_fig hm (show w < 10 by omega)
    have e3 := p10 w (by omega)
    have d10 : m / 10 ^ w % 10 < 10 := Nat.mod_lt _ (by omega)
    have go : ∀ (bg' : Bool), bg' = true → ∃ I', z_X8_putNumber_b55 SA 56 (z_X8_putNumber_b21 SA 56 f) (I, J, R) (nI m) (nI (10 ^ w)) (nI (m / 10 ^ w % 10)) 1 = some (I', J, R) ∧ fed 57 56 1 I0 I' 0 (l ++ fw (w + 1) m) := fun bg' _ => by
      obtain ⟨I1, q1, q2⟩ := a_sign (J := J) hR h (by omega) (nI (48 + m / 10 ^ w % 10))
      obtain ⟨I2, q3, q4⟩ := ih f I1 (l ++ [nI (48 + m / 10 ^ w % 10)]) true (by omega) (by omega) q2 (by rw [List.length_append, List.length_singleton]; omega) (fun z => by cases z) (fun z => by cases z)
      refine ⟨I2, ?_, fed_app q4 (by rw [if_pos rfl, fw_top, List.append_assoc]; rfl)⟩
      unfold z_X8_putNumber_b55
      rw [if_neg one0, chr_d _ d10, q1, b1_N, let_N, e3]
      exact q3
    rw [z_X8_putNumber_b21, if_neg (show ¬ w + 1 = 0 by omega), Nat.add_sub_cancel, if_neg e0, e1, ck_N, let_N, e2]
    cases bg with
    | true =>
      rw [if_neg (show ¬ bI true = 0 by decide), if_pos rfl]
      exact go true rfl
    | false =>
      rw [if_pos (show bI false = 0 from rfl), if_neg (show ¬ false = true by decide)]
      have hmw := hb rfl
      by_cases c : m < 10 ^ w
      · have z0 : m / 10 ^ w % 10 = 0 := by rw [Nat.div_eq_of_lt c]
        rw [z0]
        by_cases cw : w = 0
        · subst cw
          rw [if_pos (show nI 0 = 0 from rfl), if_pos (show nI (10 ^ 0) = 1 from rfl)]
          obtain ⟨I', q1, q2⟩ := go true rfl
          rw [z0] at q1
          refine ⟨I', q1, fed_app q2 ?_⟩
          have m0 : m = 0 := by rw [Nat.pow_zero] at c; omega
          rw [m0]; rfl
        · rw [if_pos (show nI 0 = 0 from rfl), if_neg (show ¬ nI (10 ^ w) = 1 from fun e => by
            have := (nI_eq (b := 1) (by omega) (by omega)).mp e
            have h2 : 10 ^ 1 ≤ 10 ^ w := Nat.pow_le_pow_right (by omega) (by omega)
            omega)]
          obtain ⟨I2, q3, q4⟩ := ih f I l false (by omega) (by omega) h (by omega) (fun _ => c) (fun _ => by omega)
          refine ⟨I2, ?_, fed_app q4 (by rw [if_neg (show ¬ false = true by decide)])⟩
          unfold z_X8_putNumber_b55
          rw [if_pos rfl, let_N, e3]
          exact q3
      · have hdg : dg m = fw (w + 1) m := by
          unfold dg
          rw [wd_same w m hmw 9 (by omega)]
          cases w with
          | zero => rfl
          | succ w => rw [wd, if_neg c]
        have z1 : m / 10 ^ w % 10 = m / 10 ^ w := Nat.mod_eq_of_lt (by rw [Nat.div_lt_iff_lt_mul hp.1, Nat.mul_comm, ← Nat.pow_succ]; exact hmw)
        have z2 : 0 < m / 10 ^ w := Nat.div_pos (by omega) hp.1
        rw [if_neg (show ¬ nI (m / 10 ^ w % 10) = 0 from nI_ne0 (by omega) (by omega)), hdg]
        exact go true rfl
theorem a_num {I0 I : Nat → Nat → Int32} {J : Nat → Nat → Int64} {R : Nat → Nat → Option Nat} (hR : RA R) {l : List Int32} (h : fed 57 56 1 I0 I 0 l) (hl : l.length + 12 < 800) {v : Int32} (hv : -1000000000 ≤ v.toInt) : ∃ I', z_X8_putNumber SA (I, J, R) 56 v = some (I', J, R) ∧ fed 57 56 1 I0 I' 0 (l ++ nm v) := by
  have hv2 := v.toInt_lt
  unfold z_X8_putNumber z_J9_abs_0f7a4 nm
  by_cases c : 0 ≤ v
  · have c' : 0 ≤ v.toInt := Int32.le_iff_toInt_le.mp c
    obtain ⟨I', q1, q2⟩ := a_num21 (J := J) hR (m := v.toInt.toNat) (by omega) 10 20000 I l false (by omega) (by omega) h (by omega) (fun _ => by omega) (fun _ => by omega)
    refine ⟨I', ?_, fed_app q2 (by rw [if_neg (show ¬ false = true by decide), if_pos c])⟩
    rw [if_pos c, if_pos c, b1_N]
    have e : v = nI v.toInt.toNat := i32_n0 rfl c'
    rw [← e] at q1
    exact q1
  · have c' : v.toInt < 0 := by
      have : ¬ 0 ≤ v.toInt := fun q => c (Int32.le_iff_toInt_le.mpr q)
      omega
    have e : -v = nI (-v.toInt).toNat := i32_n0 (i32_neg' rfl (by omega)) (by omega)
    obtain ⟨I1, q1, q2⟩ := a_sign (J := J) hR h (by omega) 45
    obtain ⟨I', q3, q4⟩ := a_num21 (J := J) hR (m := (-v.toInt).toNat) (by omega) 10 20000 I1 (l ++ [45]) false (by omega) (by omega) q2 (by rw [List.length_append, List.length_singleton]; omega) (fun _ => by omega) (fun _ => by omega)
    refine ⟨I', ?_, fed_app q4 (by rw [if_neg (show ¬ false = true by decide), if_neg c, List.append_assoc]; rfl)⟩
    rw [if_neg c, q1, b1_N, if_neg c, b1_N, e]
    exact q3
theorem lN_d {m : Nat} (hm : m < 2 ^ 31) : lN m / 10 = lN (m / 10) ∧ (Int64.toInt32 ((48 : Int64) + (lN m - lN m / (10 : Int64) * (10 : Int64)))) = nI (48 + m % 10) := by
  have e1 : lN m / 10 = lN (m / 10) := by
    apply Int64.toInt_inj.mp
    have h1 := l64 (n := m) (by omega)
    have h2 : (10 : Int64).toInt = 10 := rfl
    rw [i64_div (by omega), h1, h2, l64 (n := m / 10) (by omega), Int.ofNat_tdiv]
    rfl
  refine ⟨e1, ?_⟩
  rw [e1, show (10 : Int64) = lN 10 from rfl, lN_mul, lN_sub (by omega), show (48 : Int64) = lN 48 from rfl, lN_add, lN_i]
  congr 2
  omega
theorem b_num1 {I0 : Nat → Nat → Int32} {J : Nat → Nat → Int64} : ∀ (n : Nat) (I : Nat → Nat → Int32) (l : List Int32) (m : Nat), m < 2 ^ 31 → (dg m).length ≤ n → fed 15 0 32 I0 I 0 l → l.length + 12 < 900 → (dg m).length ≤ 10 →
    ∃ I', z_X12_writesNumber TB n (I, J, rB) 0 (lN m) = some (I', J, rB) ∧ fed 15 0 32 I0 I' 0 (l ++ dg m) := by
  intro n
  induction n with
  | zero =>
    intro I l m hm hd
    have := (dg_len m).2
    omega
  | succ n ih =>
    intro I l m hm hd h hl hd2
    rw [z_X12_writesNumber, z_X12_writesNumber_F]
    have t := l64 (n := m) (by omega)
    have z0 : (0 : Int64).toInt = 0 := rfl
    have z9 : (9 : Int64).toInt = 9 := rfl
    obtain ⟨e1, e2⟩ := lN_d hm
    rw [if_pos (show (0 : Int64) ≤ lN m from by rw [Int64.le_iff_toInt_le, t, z0]; omega)]
    by_cases c : m ≤ 9
    · rw [if_pos (show lN m ≤ (9 : Int64) from by rw [Int64.le_iff_toInt_le, t, z9]; omega)]
      unfold z_X12_writesNumber_b36
      obtain ⟨I', q1, q2⟩ := b_wsgn (J := J) h (by omega) (nI (48 + m % 10))
      refine ⟨I', by rw [e2, q1, b1_N], fed_app q2 (by rw [dg_small c, Nat.mod_eq_of_lt (by omega)])⟩
    · rw [if_neg (show ¬ lN m ≤ (9 : Int64) from by rw [Int64.le_iff_toInt_le, t, z9]; omega)]
      have hb := dg_big (m := m) (by omega) (by omega)
      have hlen : (dg m).length = (dg (m / 10)).length + 1 := by rw [hb, List.length_append, List.length_singleton]
      obtain ⟨I1, q1, q2⟩ := ih I l (m / 10) (by omega) (by omega) h hl (by omega)
      have hd1 := dg_len (m / 10)
      obtain ⟨I2, q3, q4⟩ := b_wsgn (J := J) q2 (by rw [List.length_append]; omega) (nI (48 + m % 10))
      unfold z_X12_writesNumber_b36
      refine ⟨I2, ?_, fed_app q4 (by rw [hb, List.append_assoc])⟩
      rw [e1] at e2 ⊢
      rw [q1, b1_N, e2, q3, b1_N]
theorem b_num {I0 I : Nat → Nat → Int32} {J : Nat → Nat → Int64} {l : List Int32} (h : fed 15 0 32 I0 I 0 l) (hl : l.length + 13 < 900) {v : Int32} (hv : -1000000000 ≤ v.toInt) : ∃ I', z_X12_writesNumber TB 40 (I, J, rB) 0 v.toInt64 = some (I', J, rB) ∧ fed 15 0 32 I0 I' 0 (l ++ nm v) := by
  have hv2 := v.toInt_lt
  unfold nm
  by_cases c : 0 ≤ v
  · have c' : 0 ≤ v.toInt := Int32.le_iff_toInt_le.mp c
    have e : v.toInt64 = lN v.toInt.toNat := by
      apply Int64.toInt_inj.mp
      rw [Int32.toInt_toInt64, l64 (by omega)]; omega
    rw [if_pos c, e]
    have hd := dg_len v.toInt.toNat
    exact b_num1 40 I l _ (by omega) (by omega) h (by omega) hd.1
  · have c' : v.toInt < 0 := by
      have : ¬ 0 ≤ v.toInt := fun q => c (Int32.le_iff_toInt_le.mpr q)
      omega
    have t : v.toInt64.toInt = v.toInt := Int32.toInt_toInt64 _
    have e : -v.toInt64 = lN (-v.toInt).toNat := by
      apply Int64.toInt_inj.mp
      rw [i64_neg (by omega), t, l64 (by omega)]; omega
    have z0 : (0 : Int64).toInt = 0 := rfl
    have hd := dg_len (-v.toInt).toNat
    obtain ⟨I1, q1, q2⟩ := b_wsgn (J := J) h (by omega) 45
    obtain ⟨I2, q3, q4⟩ := b_num1 (J := J) 39 I1 (l ++ [45]) (-v.toInt).toNat (by omega) (by omega) q2 (by rw [List.length_append, List.length_singleton]; omega) hd.1
    refine ⟨I2, ?_, fed_app q4 (by rw [if_neg c, List.append_assoc]; rfl)⟩
    rw [z_X12_writesNumber, z_X12_writesNumber_F, if_neg (show ¬ (0 : Int64) ≤ v.toInt64 from by rw [Int64.le_iff_toInt_le, t, z0]; omega), q1, b1_N, e, q3, b1_N]
/-! terms in a row -/
def txt (g : Nat → Int32) : Nat → Nat → List Int32
  | 0, _ => []
  | m + 1, k => mk1 k ++ nm (g k) ++ txt g m (k + 1)
theorem txt_len (g : Nat → Int32) : ∀ m k, (txt g m k).length ≤ 12 * m := by
  intro m
  induction m with
  | zero => intro k; exact Nat.le_refl _
  | succ m ih =>
    intro k
    rw [txt, List.length_append, List.length_append]
    have h1 := mk1_len k
    have h2 := nm_len (g k)
    have h3 := ih (k + 1)
    omega
theorem a_mark1 {I0 I : Nat → Nat → Int32} {J : Nat → Nat → Int64} {R : Nat → Nat → Option Nat} (hR : RA R) {l : List Int32} {k : Nat} (hk : k < 1000) (h : fed 57 56 1 I0 I 0 l) (hl : l.length < 800) : ∃ I', z_X8_putMarkAhead SA (I, J, R) 56 (nI k) = some (I', J, R) ∧ fed 57 56 1 I0 I' 0 (l ++ mk1 k) := by
  unfold z_X8_putMarkAhead mk1
  by_cases c : k = 0
  · subst c
    rw [if_pos (by decide), if_pos rfl, List.append_nil]
    exact ⟨I, rfl, h⟩
  · rw [if_neg (nI_nle (by omega) (by omega)), if_neg c]
    by_cases c1 : k = 1
    · subst c1
      obtain ⟨I', q1, q2⟩ := a_sign (J := J) hR h hl 59
      rw [if_pos (show nI 1 = 1 from rfl), if_pos rfl, q1, b1_N]
      exact ⟨I', rfl, q2⟩
    · obtain ⟨I', q1, q2⟩ := a_sign (J := J) hR h hl 44
      rw [if_neg (show ¬ nI k = 1 from fun e => c1 ((nI_eq (b := 1) (by omega) (by omega)).mp e)), if_neg c1, q1, b1_N]
      exact ⟨I', rfl, q2⟩
theorem b_mark1 {I0 I : Nat → Nat → Int32} {J : Nat → Nat → Int64} {l : List Int32} {k : Nat} (hk : k < 1000) (h : fed 15 0 32 I0 I 0 l) (hl : l.length < 900) : ∃ I', z_X12_writesSign TB (I, J, rB) 0 (nI k) = some (I', J, rB) ∧ fed 15 0 32 I0 I' 0 (l ++ mk1 k) := by
  unfold z_X12_writesSign mk1
  by_cases c : k = 0
  · subst c
    rw [if_pos (by decide), if_pos rfl, List.append_nil]
    exact ⟨I, rfl, h⟩
  · rw [if_neg (nI_nle (by omega) (by omega)), if_neg c]
    by_cases c1 : k = 1
    · subst c1
      obtain ⟨I', q1, q2⟩ := b_wsgn (J := J) h hl 59
      rw [if_pos (show nI 1 = 1 from rfl), if_pos rfl, q1, b1_N]
      exact ⟨I', rfl, q2⟩
    · obtain ⟨I', q1, q2⟩ := b_wsgn (J := J) h hl 44
      rw [if_neg (show ¬ nI k = 1 from fun e => c1 ((nI_eq (b := 1) (by omega) (by omega)).mp e)), if_neg c1, q1, b1_N]
      exact ⟨I', rfl, q2⟩
theorem a_terms {I0 : Nat → Nat → Int32} {J : Nat → Nat → Int64} {R : Nat → Nat → Option Nat} {g : Nat → Int32} {a K : Nat} (hR : RA R) (ha : rwA a) (hK : K ≤ 60) (hg : ∀ j, j < K → I0 (a + 1) j = g j) (hlow : ∀ j, j < K → -1000000000 ≤ (g j).toInt) : ∀ (m fuel : Nat) (I : Nat → Nat → Int32) (l : List Int32) (k : Nat), m < fuel → k + m = K → fed 57 56 1 I0 I 0 l → l.length + 12 * m + 14 < 800 →
    ∃ I', z_X8_putTerms_b3 SA 56 fuel (I, J, R) a (nI K) (nI k) = some (I', J, R) ∧ fed 57 56 1 I0 I' 0 (l ++ txt g m k) := by
  have n57 : a + 1 ≠ 57 ∧ a + 1 ≠ 56 := by rcases ha with rfl | ⟨r, hr, rfl⟩ <;> omega
  intro m
  induction m with
  | zero =>
    intro fuel I l k hf hm h hl
    obtain ⟨f, rfl⟩ : ∃ f, fuel = f + 1 := ⟨fuel - 1, by omega⟩
    exact ⟨I, by rw [z_X8_putTerms_b3, if_pos (nI_le (by omega) (by omega))], fed_app h (by rw [txt, List.append_nil])⟩
  | succ m ih =>
    intro fuel I l k hf hm h hl
    obtain ⟨f, rfl⟩ : ∃ f, fuel = f + 1 := ⟨fuel - 1, by omega⟩
    obtain ⟨I1, q1, q2⟩ := a_mark1 (J := J) (k := k) hR (by omega) h (by omega)
    have h1 := mk1_len k
    have h2 := nm_len (g k)
    have tm := a_tm (I := I1) (J := J) hR ha (show k < 60 by omega)
    rw [q2.2.2 _ _ (by omega) (by omega), hg k (by omega)] at tm
    obtain ⟨I2, q3, q4⟩ := a_num (J := J) hR q2 (by rw [List.length_append]; omega) (hlow k (by omega))
    obtain ⟨I3, q5, q6⟩ := ih f I2 (l ++ mk1 k ++ nm (g k)) (k + 1) (by omega) (by omega) q4 (by rw [List.length_append, List.length_append]; omega)
    refine ⟨I3, ?_, fed_app q6 (by rw [txt]; simp only [List.append_assoc])⟩
    rw [z_X8_putTerms_b3, if_neg (nI_ge (by omega) (by omega)), q1, b1_N, (rwA_k ha).1, ck_N, tm, b1_N, q3, b1_N, let_N, nI_1]
    exact q5
theorem b_terms26 {I0 : Nat → Nat → Int32} {J : Nat → Nat → Int64} {P : Rcp} {r K F : Nat} {op : Int32} (hr : r < 10) (hK : K ≤ 60) (hF : F ≤ 60) (hg : ∀ j, j < K → I0 3 (60 * r + j) = rwG P r j) (hlow : ∀ j, j < K → -1000000000 ≤ (rwG P r j).toInt) : ∀ (m fuel : Nat) (I : Nat → Nat → Int32) (l : List Int32) (k : Nat), m < fuel → k + m = K → fed 15 0 32 I0 I 0 l → l.length + 12 * m + 16 < 900 → (op = 0 ∨ F < k) →
    ∃ I', z_X12_writesTerms_b3 TB 0 fuel (I, J, rB) (nI r) (nI F) (nI K) op (nI k) = some (I', J, rB) ∧ fed 15 0 32 I0 I' 0 (l ++ txt (rwG P r) m k) := by
  intro m
  induction m with
  | zero =>
    intro fuel I l k hf hm h hl ho
    obtain ⟨f, rfl⟩ : ∃ f, fuel = f + 1 := ⟨fuel - 1, by omega⟩
    exact ⟨I, by rw [z_X12_writesTerms_b3, if_pos (nI_le (by omega) (by omega))], fed_app h (by rw [txt, List.append_nil])⟩
  | succ m ih =>
    intro fuel I l k hf hm h hl ho
    obtain ⟨f, rfl⟩ : ∃ f, fuel = f + 1 := ⟨fuel - 1, by omega⟩
    obtain ⟨I1, q1, q2⟩ := b_mark1 (J := J) (k := k) (by omega) h (by omega)
    have h1 := mk1_len k
    have h2 := nm_len (rwG P r k)
    have tm := b_termOf (I := I1) (J := J) hr (show k < 60 by omega)
    rw [q2.2.2 _ _ (by omega) (by omega), hg k (by omega)] at tm
    obtain ⟨I2, q3, q4⟩ := b_num (J := J) q2 (by rw [List.length_append]; omega) (hlow k (by omega))
    obtain ⟨I3, q5, q6⟩ := ih f I2 (l ++ mk1 k ++ nm (rwG P r k)) (k + 1) (by omega) (by omega) q4 (by rw [List.length_append, List.length_append]; omega) (ho.elim Or.inl (fun q => Or.inr (by omega)))
    refine ⟨I3, ?_, fed_app q6 (by rw [txt]; simp only [List.append_assoc])⟩
    have e26 : z_X12_writesTerms_b26 TB 0 (z_X12_writesTerms_b3 TB 0 f) (I1, J, rB) (nI r) (nI F) (nI K) op (nI k) = some (I3, J, rB) := by
      unfold z_X12_writesTerms_b26
      rw [tm, b1_N, q3, b1_N, let_N, nI_1]
      exact q5
    rw [z_X12_writesTerms_b3, if_neg (nI_ge (by omega) (by omega)), q1, b1_N, e26]
    by_cases c : op = 0
    · rw [if_pos c]
    · rw [if_neg c, if_neg (nI_ge (show F < k from ho.elim (fun q => absurd q c) id) (by omega))]
/-! say -/
theorem a_first {I : Nat → Nat → Int32} {J : Nat → Nat → Int64} {R : Nat → Nat → Option Nat} {P : Rcp} {r N : Nat} (hR : RA R) (hr : r < 10) (hA : rwA3 I (58 + 6 * r) P r) (hlow : ∀ j, j < rwL P r → -1000000000 ≤ (rwG P r j).toInt) (hN : N ≤ 60) (h : fed 57 56 1 I I 0 []) :
    ∃ I', z_X8_putFirst SA (I, J, R) 56 (58 + 6 * r) (nI N) = some (I', J, R) ∧ fed 57 56 1 I I' 0 ([91] ++ txt (rwG P r) (min N (rwL P r)) 0 ++ (if N < rwL P r ∨ ¬ rwS P r = 1 then [126, 93] else [93])) := by
  have hL := rwL_le P r
  have em : z_J9_min_7cf53 (nI N) (nI (rwL P r)) = some (nI (min N (rwL P r))) := by
    unfold z_J9_min_7cf53
    by_cases c : rwL P r < N
    · rw [if_pos (nI_lt c (by omega)), show min N (rwL P r) = rwL P r by omega]
    · rw [if_neg (nI_nlt (by omega) (by omega)), show min N (rwL P r) = N by omega]
  obtain ⟨I1, q1, q2⟩ := a_sign (J := J) hR h (by decide) 91
  obtain ⟨I2, q3, q4⟩ := a_terms (I0 := I) (J := J) (g := rwG P r) (K := min N (rwL P r)) hR (rwA_r hr) (by omega) (fun j hj => hA.2.1 j (by omega)) (fun j hj => hlow j (by omega)) (min N (rwL P r)) 20000 I1 ([] ++ [91]) 0 (by omega) (by omega) q2 (by show 1 + _ + _ < _; omega)
  have hl2 := txt_len (rwG P r) (min N (rwL P r)) 0
  have z6 : I2 (58 + 6 * r) 6 = nI (rwL P r) := by rw [q4.2.2 _ _ (by omega) (by omega)]; exact hA.1
  have z7 : I2 (58 + 6 * r) 7 = rwS P r := by rw [q4.2.2 _ _ (by omega) (by omega)]; exact hA.2.2
  have q3' : z_X8_putTerms SA (I1, J, R) 56 (58 + 6 * r) 0 (nI (min N (rwL P r))) = some (I2, J, R) := q3
  obtain ⟨I3, q5, q6⟩ := a_sign (J := J) hR q4 (by rw [List.length_append]; show 1 + _ < _; omega) 93
  obtain ⟨I4, q7, q8⟩ := a_sign (J := J) hR q4 (by rw [List.length_append]; show 1 + _ < _; omega) 126
  obtain ⟨I5, q9, q10⟩ := a_sign (J := J) hR q8 (by rw [List.length_append, List.length_append]; show 1 + _ + 1 < _; omega) 93
  unfold z_X8_putFirst
  simp only [hA.1, em, b1_N, q1, q3', z6, z7, q5, q7, q9]
  by_cases c1 : N < rwL P r
  · rw [if_pos (show nI (min N (rwL P r)) < nI (rwL P r) from nI_lt (by omega) (by omega)), if_pos (Or.inl c1)]
    exact ⟨I5, rfl, fed_app q10 (by simp)⟩
  · rw [if_neg (show ¬ nI (min N (rwL P r)) < nI (rwL P r) from nI_nlt (by omega) (by omega))]
    by_cases c2 : rwS P r = 1
    · rw [if_pos c2, if_neg (fun q => q.elim c1 (fun q => q c2))]
      exact ⟨I3, rfl, fed_app q6 (by simp)⟩
    · rw [if_neg c2, if_pos (Or.inr c2)]
      exact ⟨I5, rfl, fed_app q10 (by simp)⟩
theorem b_first {I0 I : Nat → Nat → Int32} {J : Nat → Nat → Int64} {P : Rcp} {r N : Nat} (hr : r < 10) (hB : rwB3 I0 P r) (hlow : ∀ j, j < rwL P r → -1000000000 ≤ (rwG P r j).toInt) (hN : N ≤ 60) (h : fed 15 0 32 I0 I 0 [91]) :
    ∃ I' v, z_X12_say_b125 TB 0 (I, J, rB) (nI r) (nI N) = some (v, (I', J, rB)) ∧ v = I' 0 32 ∧ fed 15 0 32 I0 I' 0 ([91] ++ txt (rwG P r) (min N (rwL P r)) 0 ++ (if N < rwL P r ∨ ¬ rwS P r = 1 then [126, 93] else [93])) := by
  have hL := rwL_le P r
  have i1 : fh_in (nI r) 10 = true := in_n hr (by omega)
  have k1 : (nI r).toNatClampNeg = r := nI_clamp (by omega)
  have em : z_J9_min_7cf53 (nI N) (nI (rwL P r)) = some (nI (min N (rwL P r))) := by
    unfold z_J9_min_7cf53
    by_cases c : rwL P r < N
    · rw [if_pos (nI_lt c (by omega)), show min N (rwL P r) = rwL P r by omega]
    · rw [if_neg (nI_nlt (by omega) (by omega)), show min N (rwL P r) = N by omega]
  have z4 : I 4 r = nI (rwL P r) := by rw [h.2.2 _ _ (by omega) (by omega)]; exact hB.1
  obtain ⟨I2, q3, q4⟩ := b_terms26 (I0 := I0) (J := J) (P := P) (K := min N (rwL P r)) (F := 0) (op := 0) hr (by omega) (by omega) (fun j hj => hB.2.1 j (by omega)) (fun j hj => hlow j (by omega)) (min N (rwL P r)) 20000 I [91] 0 (by omega) (by omega) h (by show 1 + _ + _ < _; omega) (Or.inl rfl)
  have hl2 := txt_len (rwG P r) (min N (rwL P r)) 0
  have z6 : I2 4 r = nI (rwL P r) := by rw [q4.2.2 _ _ (by omega) (by omega)]; exact hB.1
  have z7 : I2 5 r = rwS P r := by rw [q4.2.2 _ _ (by omega) (by omega)]; exact hB.2.2
  have q3' : z_X12_writesTerms TB (I, J, rB) 0 (nI r) 0 (nI (min N (rwL P r))) 0 = some (I2, J, rB) := q3
  obtain ⟨I3, q5, q6⟩ := b_wsgn (J := J) q4 (by rw [List.length_append]; show 1 + _ < _; omega) 93
  obtain ⟨I4, q7, q8⟩ := b_wsgn (J := J) q4 (by rw [List.length_append]; show 1 + _ < _; omega) 126
  obtain ⟨I5, q9, q10⟩ := b_wsgn (J := J) q8 (by rw [List.length_append, List.length_append]; show 1 + _ + 1 < _; omega) 93
  unfold z_X12_say_b125 z_X12_say_b167
  simp only [rB_5, rB_6, b1_N, kB_N4, kB_N5, ck_N, lB_N4, lB_N5, i1, k1, z4, em, q3', z6, z7, q5, q7, q9]
  by_cases c1 : N < rwL P r
  · rw [if_pos (show nI (min N (rwL P r)) < nI (rwL P r) from nI_lt (by omega) (by omega)), if_pos (Or.inl c1)]
    exact ⟨I5, _, rfl, rfl, fed_app q10 (by simp)⟩
  · rw [if_neg (show ¬ nI (min N (rwL P r)) < nI (rwL P r) from nI_nlt (by omega) (by omega))]
    by_cases c2 : rwS P r = 1
    · rw [if_pos c2, if_neg (fun q => q.elim c1 (fun q => q c2))]
      exact ⟨I3, _, rfl, rfl, fed_app q6 (by simp)⟩
    · rw [if_neg c2, if_pos (Or.inr c2)]
      exact ⟨I5, _, rfl, rfl, fed_app q10 (by simp)⟩
def rtx (g : Nat → Int32) (T D : Nat) : List Int32 := [91] ++ txt g T 0 ++ mk1 T ++ [40] ++ nm (g T) ++ txt g (D - 1) (T + 1) ++ [41] ++ [93]
theorem rtx_len (g : Nat → Int32) {T D : Nat} (h : T + D ≤ 60) (hD : 1 ≤ D) : (rtx g T D).length ≤ 740 := by
  have h1 := txt_len g T 0
  have h2 := txt_len g (D - 1) (T + 1)
  have h3 := mk1_len T
  have h4 := nm_len (g T)
  unfold rtx
  simp only [List.length_append, List.length_singleton]
  omega
theorem a_ret {I : Nat → Nat → Int32} {J : Nat → Nat → Int64} {R : Nat → Nat → Option Nat} {P : Rcp} {r T D : Nat} (hR : RA R) (hr : r < 10) (hA : rwA3 I (58 + 6 * r) P r) (hlow : ∀ j, j < rwL P r → -1000000000 ≤ (rwG P r j).toInt) (h60 : rwL P r = 60) (hT : T + D ≤ 60) (hD : 1 ≤ D) (h : fed 57 56 1 I I 0 []) :
    ∃ I', z_X8_putReturning SA (I, J, R) 56 (58 + 6 * r) (nI T) (nI D) = some (I', J, R) ∧ fed 57 56 1 I I' 0 (rtx (rwG P r) T D) := by
  have l1 := txt_len (rwG P r) T 0
  have l2 := txt_len (rwG P r) (D - 1) (T + 1)
  have l3 := mk1_len T
  have l4 := nm_len (rwG P r T)
  obtain ⟨I1, q1, f1⟩ := a_sign (J := J) hR h (by decide) 91
  obtain ⟨I2, q2, f2⟩ := a_terms (I0 := I) (J := J) (g := rwG P r) (K := T) hR (rwA_r hr) (by omega) (fun j hj => hA.2.1 j (by omega)) (fun j hj => hlow j (by omega)) T 20000 I1 ([] ++ [91]) 0 (by omega) (by omega) f1 (by show 1 + _ + _ < _; omega)
  obtain ⟨I3, q3, f3⟩ := a_mark1 (J := J) (k := T) hR (by omega) f2 (by simp only [List.length_append, List.length_singleton, List.length_nil]; omega)
  obtain ⟨I4, q4, f4⟩ := a_sign (J := J) hR f3 (by simp only [List.length_append, List.length_singleton, List.length_nil]; omega) 40
  have tm := a_tm (I := I4) (J := J) hR (rwA_r hr) (show T < 60 by omega)
  rw [f4.2.2 _ _ (by omega) (by omega), hA.2.1 T (by omega)] at tm
  obtain ⟨I5, q5, f5⟩ := a_num (J := J) hR f4 (by simp only [List.length_append, List.length_singleton, List.length_nil]; omega) (hlow T (by omega))
  obtain ⟨I6, q6, f6⟩ := a_terms (I0 := I) (J := J) (g := rwG P r) (K := T + D) hR (rwA_r hr) (by omega) (fun j hj => hA.2.1 j (by omega)) (fun j hj => hlow j (by omega)) (D - 1) 20000 I5 _ (T + 1) (by omega) (by omega) f5 (by simp only [List.length_append, List.length_singleton, List.length_nil]; omega)
  obtain ⟨I7, q7, f7⟩ := a_sign (J := J) hR f6 (by simp only [List.length_append, List.length_singleton, List.length_nil]; omega) 41
  obtain ⟨I8, q8, f8⟩ := a_sign (J := J) hR f7 (by simp only [List.length_append, List.length_singleton, List.length_nil]; omega) 93
  refine ⟨I8, ?_, fed_app f8 (by unfold rtx; rw [List.nil_append])⟩
  have q2' : z_X8_putTerms SA (I1, J, R) 56 (58 + 6 * r) 0 (nI T) = some (I2, J, R) := q2
  have q6' : z_X8_putTerms SA (I5, J, R) 56 (58 + 6 * r) (nI (T + 1)) (nI (T + D)) = some (I6, J, R) := q6
  unfold z_X8_putReturning
  rw [q1, b1_N, q2', b1_N, q3, b1_N, q4, b1_N, tm, b1_N, q5, b1_N, nI_1, nI_add, q6', b1_N, q7, b1_N, q8, b1_N]
theorem b_ret {I0 I : Nat → Nat → Int32} {J : Nat → Nat → Int64} {P : Rcp} {r T D : Nat} (hr : r < 10) (hB : rwB3 I0 P r) (hlow : ∀ j, j < rwL P r → -1000000000 ≤ (rwG P r j).toInt) (h60 : rwL P r = 60) (hT : T + D ≤ 60) (hD : 1 ≤ D) (h30 : I0 0 30 = nI D) (h : fed 15 0 32 I0 I 0 [91]) :
    ∃ I' v, (fh_b1 (z_X12_writesTerms TB (I, J, rB) 0 (nI r) (0 : Int32) (nI T) (0 : Int32)) (fun h13 => fh_b1 (z_X12_writesSign TB h13 0 (nI T)) (fun h15 => fh_b1 (z_X12_writes TB h15 0 (40 : Int32)) (fun h17 => fh_b1 (z_X12_writesTerms TB h17 0 (nI r) (nI T) (nI T + (h17.1 0 30)) (1 : Int32)) (fun h19 => fh_b1 (z_X12_writes TB h19 0 (41 : Int32)) (fun h21 => fh_b1 (z_X12_writes TB h21 0 (93 : Int32)) (fun h23 => some ((h23.1 0 32), h23)))))))) = some (v, (I', J, rB)) ∧ v = I' 0 32 ∧ fed 15 0 32 I0 I' 0 (rtx (rwG P r) T D) := by
  have l1 := txt_len (rwG P r) T 0
  have l2 := txt_len (rwG P r) (D - 1) (T + 1)
  have l3 := mk1_len T
  have l4 := nm_len (rwG P r T)
  obtain ⟨I2, q2, f2⟩ := b_terms26 (I0 := I0) (J := J) (P := P) (K := T) (F := 0) (op := 0) hr (by omega) (by omega) (fun j hj => hB.2.1 j (by omega)) (fun j hj => hlow j (by omega)) T 20000 I [91] 0 (by omega) (by omega) h (by show 1 + _ + _ < _; omega) (Or.inl rfl)
  obtain ⟨I3, q3, f3⟩ := b_mark1 (J := J) (k := T) (by omega) f2 (by simp only [List.length_append, List.length_singleton]; omega)
  obtain ⟨I4, q4, f4⟩ := b_wsgn (J := J) f3 (by simp only [List.length_append, List.length_singleton]; omega) 40
  have tm := b_termOf (I := I4) (J := J) hr (show T < 60 by omega)
  rw [f4.2.2 _ _ (by omega) (by omega), hB.2.1 T (by omega)] at tm
  obtain ⟨I5, q5, f5⟩ := b_num (J := J) f4 (by simp only [List.length_append, List.length_singleton]; omega) (hlow T (by omega))
  obtain ⟨I6, q6, f6⟩ := b_terms26 (I0 := I0) (J := J) (P := P) (K := T + D) (F := T) (op := 1) hr (by omega) (by omega) (fun j hj => hB.2.1 j (by omega)) (fun j hj => hlow j (by omega)) (D - 1) 19999 I5 _ (T + 1) (by omega) (by omega) f5 (by simp only [List.length_append, List.length_singleton]; omega) (Or.inr (by omega))
  obtain ⟨I7, q7, f7⟩ := b_wsgn (J := J) f6 (by simp only [List.length_append, List.length_singleton]; omega) 41
  obtain ⟨I8, q8, f8⟩ := b_wsgn (J := J) f7 (by simp only [List.length_append, List.length_singleton]; omega) 93
  have z30 : I4 0 30 = nI D := by rw [f4.2.2 _ _ (by omega) (by omega)]; exact h30
  have q2' : z_X12_writesTerms TB (I, J, rB) 0 (nI r) 0 (nI T) 0 = some (I2, J, rB) := q2
  have q6' : z_X12_writesTerms TB (I4, J, rB) 0 (nI r) (nI T) (nI (T + D)) 1 = some (I6, J, rB) := by
    unfold z_X12_writesTerms
    rw [z_X12_writesTerms_b3, if_neg (nI_ge (show T < T + D by omega) (by omega)), if_neg one0, if_pos (nI_le (Nat.le_refl _) (by omega))]
    unfold z_X12_writesTerms_b26
    rw [tm, b1_N, q5, b1_N, let_N, nI_1]
    exact q6
  refine ⟨I8, _, ?_, rfl, fed_app f8 rfl⟩
  simp only [q2', b1_N, q3, q4, z30, nI_add, q6', q7, q8]
theorem op_say {h h2 : fh_H} (i : Inv h h2) (x1 x2 : Int32) : opx (some 2) (some 1) (z_X11_say SA h 0 x1 x2) (z_X12_say TB h2 0 x1 x2) := by
  obtain ⟨I, J, R, I', J', n, P, t, b, fp, s, c, rfl, rfl, ok, hA, hB⟩ := i.cases
  unfold z_X11_say z_X12_say z_X12_say_b29
  have up3 : ∀ v : Int32, fh_up I' 0 3 v 0 3 = v := fun v => up_s _ _ _ _
  have l0 : (0 : Int32) ≤ 0 := by decide
  have l1 : ¬ (1 : Int32) ≤ 0 := by decide
  have l2 : ¬ (2 : Int32) ≤ 0 := by decide
  have eI : z_X12_isIn x2.toInt64 1 60 = some (if 1 ≤ x2 ∧ x2 ≤ 60 then 1 else 0) := b_isIn x2 1 60
  by_cases hx : ∃ r : Nat, r < 10 ∧ x1 = nI r
  · obtain ⟨r, hr, rfl⟩ := hx
    obtain ⟨I1, J1, R1, e, iA, hf, -⟩ := a_set (J := J) hr hA
    rw [e, bx_Nr, b1_N, b_isRow hr, b1_N, if_neg one0, eI, b1_N]
    by_cases hq : 1 ≤ x2 ∧ x2 ≤ 60
    · obtain ⟨N, hN, rfl⟩ : ∃ N : Nat, N ≤ 60 ∧ x2 = nI N := by
        refine nI_of2 (M := 60) (n := 60) rfl (fun z => ?_) hq.2
        have h1 := Int32.le_iff_toInt_le.mp hq.1
        have h2 := Int32.lt_iff_toInt_lt.mp z
        have h3 : (1 : Int32).toInt = 1 := rfl
        have h4 : (0 : Int32).toInt = 0 := rfl
        omega
      have hR := iA.1
      have rA := rw_A hr iA (hf r (Nat.le_refl _))
      have hB0 := invB_3 hB 0
      have wB := rw_B hr hB0
      have hlow := fun j hj => rw_low (ok.1 n (Nat.le_refl _)) hr (k := j) hj
      obtain ⟨I2, w, eA, eB, o, hag, h60, hcut⟩ := agR_both (J := J') (J1 := J1) hR hr rA wB
      obtain ⟨p0, p1⟩ := agR_part hag
      -- the class's text begins
      obtain ⟨Ia, eIa⟩ : ∃ z, z = fh_up I1 56 1 0 := ⟨_, rfl⟩
      have oa : ∀ b j, ¬ (b = 56 ∧ j = 1) → Ia b j = I1 b j := fun b j q => by rw [eIa]; simp only [fh_up, q, if_false]
      have est : z_X8_start SA (I1, J1, R1) 56 = some (Ia, J1, R1) := by rw [eIa]; rfl
      have rAa : rwA3 Ia (58 + 6 * r) (P n) r := ⟨by rw [oa _ _ (by omega)]; exact rA.1, fun j hj => by rw [oa _ _ (by omega)]; exact rA.2.1 j hj, by rw [oa _ _ (by omega)]; exact rA.2.2⟩
      have fa : fed 57 56 1 Ia Ia 0 [] := fed_nil (by rw [eIa, up_s]; rfl)
      -- the reference's
      obtain ⟨Ib, eIb⟩ : ∃ z, z = fh_up I2 0 32 0 := ⟨_, rfl⟩
      have ob : ∀ b j, ¬ (b = 0 ∧ j = 32) → Ib b j = I2 b j := fun b j q => by rw [eIb]; simp only [fh_up, q, if_false]
      obtain ⟨Ic, ec, fc⟩ := b_wsgn (J := J') (fed_nil (A := 15) (I := Ib) (a := 0) (k := 32) (t := 0) (by rw [eIb, up_s]; rfl)) (by decide) 91
      rw [List.nil_append] at fc
      have wBb : rwB3 Ib (P n) r := ⟨by rw [ob _ _ (by omega), o _ _ (by omega)]; exact wB.1, fun j hj => by rw [ob _ _ (by omega), o _ _ (by omega)]; exact wB.2.1 j hj, by rw [ob _ _ (by omega), o _ _ (by omega)]; exact wB.2.2⟩
      have c29 : Ic 0 29 = I2 0 29 := by rw [fc.2.2 _ _ (by omega) (by omega), ob _ _ (by omega)]
      have c30 : Ic 0 30 = I2 0 30 := by rw [fc.2.2 _ _ (by omega) (by omega), ob _ _ (by omega)]
      -- how both end
      have fin : ∀ (If Ig : Nat → Nat → Int32) (v : Int32) (l : List Int32), fed 57 56 1 Ia If 0 l → fed 15 0 32 Ib Ig 0 l → v = Ig 0 32 → l.length ≤ 800 → opx (some 2) (some 1) (some (Sum.inr (If 56 1), (If, J1, R1))) (some (v, (Ig, J', rB))) := fun If Ig v l ff fg hv hl => by
        have e1 : If 56 1 = nI l.length := by have := ff.1; rw [Nat.zero_add] at this; exact this
        have e2 : Ig 0 32 = nI l.length := by have := fg.1; rw [Nat.zero_add] at this; exact this
        have oB : ∀ b j, ((1 ≤ b ∧ b ≤ 8) ∨ b = 16 ∨ (b = 0 ∧ (j = 2 ∨ j = 3 ∨ j = 35 ∨ j = 43))) → Ig b j = fh_up I' 0 3 0 b j := fun b j q => by
          rw [fg.2.2 _ _ (by omega) (by omega), ob _ _ (by omega), o _ _ (by omega)]
        have oA : ∀ b j, b ≠ 56 → b ≠ 57 → If b j = I1 b j := fun b j q1 q2 => by
          rw [ff.2.2 _ _ (by omega) (by omega), oa _ _ (by omega)]
        refine opx_r (v := If 56 1) (Inv.mk (s := l.length) (c := fun j => l.getD j 0) (t := t) (b := b) (fp := fp) ⟨ok.1, ok.2.1, ok.2.2.1, hl⟩ (invA_gen iA (fun b j q q1 q2 q3 q4 => oA b j q3 q4) ⟨?_, fun j hj => ?_, ?_⟩ ⟨e1, fun j hj => ?_⟩ iA.1 iA.2.1 (fun _ _ _ _ => rfl)) (invB_gen hB0 (fun b j q => oB b j (by omega)) ⟨?_, fun j hj => ?_, ?_⟩ ⟨e2, fun j hj => ?_⟩)) rfl (by rw [hv, e1, e2]) ?_
        · rw [oA _ _ (by decide) (by decide)]; exact iA.2.2.2.2.1.1
        · rw [oA _ _ (by decide) (by decide)]; exact iA.2.2.2.2.1.2.1 j hj
        · rw [oA _ _ (by decide) (by decide)]; exact iA.2.2.2.2.1.2.2
        · have := ff.2.1 j hj; rw [Nat.zero_add] at this; exact this
        · rw [oB _ _ (by omega)]; exact hB0.2.2.1.1
        · rw [oB _ _ (by omega)]; exact hB0.2.2.1.2.1 j hj
        · rw [oB _ _ (by omega)]; exact hB0.2.2.1.2.2
        · have := fg.2.1 j hj; rw [Nat.zero_add] at this; exact this
        · show Ig 0 3 = 0
          rw [oB _ _ (by omega)]; exact up3 0
      have h1 : ¬ nI N < 1 := i32_nlt.mpr hq.1
      have first : opx (some 2) (some 1) (z_X11_say_b91 SA 0 (Ia, J1, R1) (nI N) (58 + 6 * r)) (z_X12_say_b125 TB 0 (Ic, J', rB) (nI r) (nI N)) := by
        obtain ⟨If, qa, ff⟩ := a_first (J := J1) hR hr rAa hlow hN fa
        obtain ⟨Ig, v, qb, hv, fg⟩ := b_first (J := J') hr wBb hlow hN fc
        have hl := txt_len (rwG (P n) r) (min N (rwL (P n) r)) 0
        rw [qb]
        unfold z_X11_say_b91
        simp only [rA_0_9 hR, b1_N, kA_56, ck_N, (rwA_k (rwA_r hr)).1, qa]
        refine fin If Ig v _ ff fg hv ?_
        rw [List.length_append, List.length_append]
        split <;> (simp only [List.length_cons, List.length_nil]; omega)
      simp only [h1, if_false, hq.2, if_true, hq, and_self, one0, (rwA_k (rwA_r hr)).1, ck_N, eA, b1_N, p0, p1, rA_0_9 hR, kA_56, est, kB_N0, let_N, sI_N, up3, l0, eB, ← eIb, ec, c29, c30]
      rcases hag with ⟨w1, w2, w3⟩ | ⟨T, D, w1, w2, w3, w4, w5⟩
      · have em : z_J9_max_7cf53 1 (-1) = some 1 := rfl
        rw [w3, w1, em]
        simp only [b1_N, if_true]
        exact first
      · have em : z_J9_max_7cf53 1 (nI T) = some (nI (max 1 T)) := by
          unfold z_J9_max_7cf53
          by_cases z : 1 < T
          · rw [if_pos (show (1 : Int32) < nI T from nI_lt (a := 1) z (by omega)), show max 1 T = T by omega]
          · rw [if_neg (show ¬ (1 : Int32) < nI T from nI_nlt (a := 1) (by omega) (by omega)), show max 1 T = 1 by omega]; rfl
        have wne : ¬ nI T = -1 := fun e => by
          have := congrArg Int32.toInt e
          rw [nI_toInt (by omega)] at this
          have h1 : (-1 : Int32).toInt = -1 := rfl
          omega
        have wn := (pair_0 (T := T) (D := D) (by omega) (by omega)).2.2
        have h60' := h60 (hcut (by rw [w3]; exact wn))
        rw [w3, w1, w2, em]
        simp only [b1_N, wn, wne, if_false, nI_add]
        by_cases z : N < max 1 T + D
        · rw [if_pos (nI_lt z (by omega)), if_pos (nI_lt z (by omega))]
          exact first
        · rw [if_neg (nI_nlt (by omega) (by omega)), if_neg (nI_nlt (by omega) (by omega))]
          obtain ⟨If, qa, ff⟩ := a_ret (J := J1) (T := max 1 T) (D := D) hR hr rAa hlow h60' (by omega) w4 fa
          obtain ⟨Ig, v, qb, hv, fg⟩ := b_ret (I0 := Ib) (J := J') (T := max 1 T) (D := D) hr wBb hlow h60' (by omega) w4 (by rw [ob _ _ (by omega)]; exact w2) fc
          rw [qb]
          simp only [rA_0_9 hR, b1_N, kA_56, ck_N, qa]
          exact fin If Ig v _ ff fg hv (Nat.le_trans (rtx_len _ (by omega) w4) (by omega))
    · simp only [hq, if_false, if_true, kB_N0, ck_N, let_N, sI_N, up3, l2]
      have fin : opx (some 2) (some 1) (some (Sum.inl 0, (I1, J1, R1))) (some ((0 : Int32), (fh_up I' 0 3 2, J', rB))) := opx_l0 (Inv.mk ok iA (invB_3 hB 2)) rfl rfl u3 (by decide)
      by_cases h1 : x2 < 1
      · rw [if_pos h1]; exact fin
      · rw [if_neg h1, if_neg (fun h2 => hq ⟨i32_nlt.mp h1, h2⟩)]; exact fin
  · rw [sett_no hA hx, bx_Nl, b_isRow_no hx, b1_N, if_pos rfl]
    simp only [kB_N0, ck_N, let_N, sI_N, up3, l1, if_false]
    exact opx_l1 (Inv.mk ok hA (invB_3 hB 1)) rfl rfl u3
