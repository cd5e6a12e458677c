/-! feed -/
theorem invA_gen {I I' : Nat → Nat → Int32} {R R' : Nat → Nat → Option Nat} {n : Nat} {P : Nat → Rcp} {t t' : Nat} {b b' : Nat → Nat} {fp fp' : Int32} {s s' : Nat} {c c' : Nat → Int32} (h : invA I R n P t b fp s c) (e : ∀ b j, kpA b j → b ≠ 48 → b ≠ 49 → b ≠ 56 → b ≠ 57 → I' b j = I b j) (hT : tapA I' t' b' fp') (hS : saiA I' s' c') (hR : RA R') (hh : hw R') (eR : rF2 R R') : invA I' R' n P t' b' fp' s' c' := by
  obtain ⟨-, -, hv, hH, -, -⟩ := h
  have em : ∀ m, mdA m → (∀ j, I' m j = I m j) ∧ ∀ j, I' (m + 1) j = I (m + 1) j := fun m hm => by
    have := md_rng hm
    exact ⟨fun j => e _ _ (by unfold kpA; omega) (by omega) (by omega) (by omega) (by omega), fun j => e _ _ (by unfold kpA; omega) (by omega) (by omega) (by omega) (by omega)⟩
  refine ⟨hR, hh, fun r hr => ?_, his_cong hH (fun j => e _ _ (by unfold kpA; omega) (by omega) (by omega) (by omega) (by omega)) em eR, hT, hS⟩
  obtain ⟨m, h1, h2, h3, h4, h5, h6⟩ := hv r hr
  have q := em m h2
  have z : ∀ b j, 58 ≤ b → I' b j = I b j := fun b j hb => e _ _ (by unfold kpA; omega) (by omega) (by omega) (by omega) (by omega)
  refine ⟨m, by rw [eR _ _ (by omega) (by omega)]; exact h1, h2, mk_cong h3 q.1 q.2, h4, by rw [z _ _ (by omega)]; exact h5, ?_⟩
  rcases h6 with ⟨g1, g2⟩ | g1
  · exact Or.inl ⟨by rw [z _ _ (by omega)]; exact g1, dA_cong g2 (fun c j q => z _ _ (by omega))⟩
  · exact Or.inr (by rw [z _ _ (by omega)]; exact g1)
theorem invB_gen {I I' : Nat → Nat → Int32} {n : Nat} {P : Nat → Rcp} {t t' : Nat} {b b' : Nat → Nat} {fp fp' : Int32} {s s' : Nat} {c c' : Nat → Int32} (h : invB I n P t b fp s c) (e : ∀ b j, ((1 ≤ b ∧ b ≤ 8) ∨ (b = 0 ∧ j = 2)) → I' b j = I b j) (hT : tapB I' t' b' fp') (hS : saiB I' s' c') : invB I' n P t' b' fp' s' c' := by
  obtain ⟨⟨r1, r2⟩, ⟨a1, a2, a3⟩, -, -⟩ := h
  exact ⟨⟨fun r hr j hj => by rw [e _ _ (by omega)]; exact r1 r hr j hj, fun i hi => dB_cong (r2 i hi) (fun b j h1 h2 => e _ _ (by omega))⟩, ⟨by rw [e _ _ (by omega)]; exact a1, a2, fun k hk r hr j hj => by rw [e _ _ (by omega)]; exact a3 k hk r hr j hj⟩, hT, hS⟩
def fed (A a k : Nat) (I I' : Nat → Nat → Int32) (t : Nat) (l : List Int32) : Prop := I' a k = nI (t + l.length) ∧ (∀ j, j < l.length → I' A (t + j) = l.getD j 0) ∧ ∀ b j, ¬ (b = a ∧ j = k) → ¬ (b = A ∧ t ≤ j ∧ j < t + l.length) → I' b j = I b j
theorem fed_nil {A a k : Nat} {I : Nat → Nat → Int32} {t : Nat} (h : I a k = nI t) : fed A a k I I t [] := ⟨h, fun j hj => absurd hj (Nat.not_lt_zero _), fun _ _ _ _ => rfl⟩
theorem fed_snoc {A a k : Nat} {I I' : Nat → Nat → Int32} {t : Nat} {l : List Int32} (hne : A ≠ a) (v : Int32) (h : fed A a k I I' t l) : fed A a k I (fh_up (fh_up I' A (t + l.length) v) a k (nI (t + l.length + 1))) t (l ++ [v]) := by
  obtain ⟨h1, h2, h3⟩ := h
  refine ⟨by rw [up_s, List.length_append, List.length_singleton, Nat.add_assoc], fun j hj => ?_, fun b j q1 q2 => ?_⟩
  · rw [List.length_append, List.length_singleton] at hj
    rw [up_a _ _ _ _ hne]
    by_cases c : j = l.length
    · subst c
      rw [up_s]; simp
    · rw [up_k _ _ _ _ (by omega), h2 j (by omega), List.getD_eq_getElem?_getD, List.getD_eq_getElem?_getD, List.getElem?_append_left (by omega)]
  · rw [List.length_append, List.length_singleton] at q2
    have e : fh_up (fh_up I' A (t + l.length) v) a k (nI (t + l.length + 1)) b j = fh_up I' A (t + l.length) v b j := by simp only [fh_up, q1, if_false]
    rw [e]
    have e2 : fh_up I' A (t + l.length) v b j = I' b j := by
      by_cases c : b = A ∧ j = t + l.length
      · exact absurd ⟨c.1, by omega, by omega⟩ q2
      · simp only [fh_up, c, if_false]
    rw [e2]
    exact h3 b j q1 (fun q => q2 ⟨q.1, q.2.1, by omega⟩)
theorem a_addByte {I : Nat → Nat → Int32} {J : Nat → Nat → Int64} {R : Nat → Nat → Option Nat} (hR : RA R) {t : Nat} (h6 : I 48 6 = nI t) (ht : t < 200) (v : Int32) : z_X10_addByte SA (I, J, R) 48 v = some (fh_up (fh_up I 49 t (v &&& 255)) 48 6 (nI (t + 1)), J, R) := by
  have c0 : ¬ nI t < 0 := nI_pos (by omega)
  have c1 : ¬ Int32.ofNat 200 ≤ nI t := nI_ge (b := 200) (by omega) (by omega)
  have i1 : fh_in (nI t) 200 = true := in_n (by omega) (by omega)
  have k1 : (nI t).toNatClampNeg = t := nI_clamp (by omega)
  have u1 : fh_up I 49 t (v &&& 255) 48 6 = nI t := by rw [up_a _ _ _ _ (by decide)]; exact h6
  unfold z_X10_addByte
  simp only [h6, c0, if_false, rA_48_0 hR, b1_N, kA_49, ck_N, lA_49, c1, i1, k1, let_N, sI_N, u1, nI_1]
def fb (x : Int32) : List Int32 := [x >>> 24 &&& 255, x >>> 16 &&& 255, x >>> 8 &&& 255, x >>> 0 &&& 255]
theorem sh_bits (y : BitVec 32) {s : Nat} (hs : s ≤ 24) : (y >>> s) &&& 255#32 = (y.sshiftRight s) &&& 255#32 := by
  apply BitVec.eq_of_getLsbD_eq
  intro i hi
  rw [BitVec.getLsbD_and, BitVec.getLsbD_and, BitVec.getLsbD_ushiftRight, BitVec.getLsbD_sshiftRight]
  by_cases h8 : i < 8
  · have h1 : ¬ 32 ≤ i := by omega
    have h2 : s + i < 32 := by omega
    simp [h1, h2]
  · have h3 : (255#32).getLsbD i = false := by
      have : ∀ i, i < 32 → ¬ i < 8 → (255#32).getLsbD i = false := by decide
      exact this i hi h8
    rw [h3, Bool.and_false, Bool.and_false]
theorem sh24 (x : Int32) : (Int32.toUInt32 x >>> (Int32.toUInt32 (24 : Int32) &&& Int32.toUInt32 31)).toInt32 &&& (255 : Int32) = x >>> (24 : Int32) &&& (255 : Int32) := by
  apply Int32.toBitVec_inj.mp
  exact sh_bits x.toBitVec (s := 24) (by omega)
theorem sh16 (x : Int32) : (Int32.toUInt32 x >>> (Int32.toUInt32 (16 : Int32) &&& Int32.toUInt32 31)).toInt32 &&& (255 : Int32) = x >>> (16 : Int32) &&& (255 : Int32) := by
  apply Int32.toBitVec_inj.mp
  exact sh_bits x.toBitVec (s := 16) (by omega)
theorem sh8 (x : Int32) : (Int32.toUInt32 x >>> (Int32.toUInt32 (8 : Int32) &&& Int32.toUInt32 31)).toInt32 &&& (255 : Int32) = x >>> (8 : Int32) &&& (255 : Int32) := by
  apply Int32.toBitVec_inj.mp
  exact sh_bits x.toBitVec (s := 8) (by omega)
theorem sh0 (x : Int32) : x &&& (255 : Int32) = x >>> (0 : Int32) &&& (255 : Int32) := by
  apply Int32.toBitVec_inj.mp
  have := sh_bits x.toBitVec (s := 0) (by omega)
  rw [BitVec.ushiftRight_zero] at this
  exact this
theorem a_addFour {I0 I : Nat → Nat → Int32} {J : Nat → Nat → Int64} {R : Nat → Nat → Option Nat} (hR : RA R) {t : Nat} {l : List Int32} (h : fed 49 48 6 I0 I t l) (ht : t + l.length + 4 ≤ 200) (x : Int32) : ∃ I', z_X10_addFour SA (I, J, R) 48 x = some (I', J, R) ∧ fed 49 48 6 I0 I' t (l ++ fb x) := by
  have f1 := fed_snoc (by decide) (x >>> 24 &&& 255) h
  have f2 := fed_snoc (by decide) (x >>> 16 &&& 255) f1
  have f3 := fed_snoc (by decide) (x >>> 8 &&& 255) f2
  have f4 := fed_snoc (by decide) (x >>> 0 &&& 255) f3
  have n1 : (l ++ [x >>> 24 &&& 255]).length = l.length + 1 := by simp
  have n2 : (l ++ [x >>> 24 &&& 255] ++ [x >>> 16 &&& 255]).length = l.length + 2 := by simp
  have n3 : (l ++ [x >>> 24 &&& 255] ++ [x >>> 16 &&& 255] ++ [x >>> 8 &&& 255]).length = l.length + 3 := by simp
  have e1 := a_addByte (J := J) hR h.1 (by omega) (Int32.toUInt32 x >>> (Int32.toUInt32 (24 : Int32) &&& Int32.toUInt32 31)).toInt32
  rw [sh24 x] at e1
  have e2 := a_addByte (J := J) hR f1.1 (by omega) (Int32.toUInt32 x >>> (Int32.toUInt32 (16 : Int32) &&& Int32.toUInt32 31)).toInt32
  rw [sh16 x] at e2
  have e3 := a_addByte (J := J) hR f2.1 (by omega) (Int32.toUInt32 x >>> (Int32.toUInt32 (8 : Int32) &&& Int32.toUInt32 31)).toInt32
  rw [sh8 x] at e3
  have e4 := a_addByte (J := J) hR f3.1 (by omega) x
  rw [sh0 x] at e4
  refine ⟨_, ?_, by rw [show l ++ fb x = l ++ [x >>> 24 &&& 255] ++ [x >>> 16 &&& 255] ++ [x >>> 8 &&& 255] ++ [x >>> 0 &&& 255] by simp [fb]]; exact f4⟩
  unfold z_X10_addFour
  rw [e1, b1_N, e2, b1_N, e3, b1_N, e4, b1_N]
def fb5 (x1 x2 x3 x4 x5 : Int32) : List Int32 := fb x1 ++ fb x2 ++ fb x3 ++ fb x4 ++ fb x5
theorem a_feed {I : Nat → Nat → Int32} {J : Nat → Nat → Int64} {R : Nat → Nat → Option Nat} (hR : RA R) {t : Nat} (h6 : I 48 6 = nI t) (ht : t + 20 ≤ 200) (x1 x2 x3 x4 x5 : Int32) : ∃ I', z_X11_feed SA (I, J, R) 0 x1 x2 x3 x4 x5 = some (nI (t + 20), (I', J, R)) ∧ fed 49 48 6 I I' t (fb5 x1 x2 x3 x4 x5) := by
  obtain ⟨I1, e1, g1⟩ := a_addFour (J := J) hR (fed_nil h6) (by rw [List.length_nil]; omega) x1
  obtain ⟨I2, e2, g2⟩ := a_addFour (J := J) hR g1 (by simp [fb]; omega) x2
  obtain ⟨I3, e3, g3⟩ := a_addFour (J := J) hR g2 (by simp [fb]; omega) x3
  obtain ⟨I4, e4, g4⟩ := a_addFour (J := J) hR g3 (by simp [fb]; omega) x4
  obtain ⟨I5, e5, g5⟩ := a_addFour (J := J) hR g4 (by simp [fb]; omega) x5
  rw [List.nil_append] at g5
  have z6 : I5 48 6 = nI (t + 20) := g5.1
  refine ⟨I5, ?_, g5⟩
  have c0 : nI t + 20 ≤ 200 := by rw [show nI t + 20 = nI (t + 20) from nI_add t 20]; exact nI_le (b := 200) ht (by omega)
  unfold z_X11_feed
  simp only [rA_0_6 hR, b1_N, kA_48, ck_N, h6, c0, if_true, e1, e2, e3, e4, e5, z6]
theorem a_feed0 {I : Nat → Nat → Int32} {J : Nat → Nat → Int64} {R : Nat → Nat → Option Nat} (hR : RA R) {t : Nat} (h6 : I 48 6 = nI t) (ht : ¬ t + 20 ≤ 200) (ht2 : t ≤ 200) (x1 x2 x3 x4 x5 : Int32) : z_X11_feed SA (I, J, R) 0 x1 x2 x3 x4 x5 = some (-1, (I, J, R)) := by
  have c0 : ¬ nI t + 20 ≤ 200 := by rw [show nI t + 20 = nI (t + 20) from nI_add t 20]; exact nI_ge (a := 200) (by omega) (by omega)
  unfold z_X11_feed
  simp only [rA_0_6 hR, b1_N, kA_48, ck_N, h6, c0, if_false]
def bw (x1 x2 x3 x4 x5 : Int32) (k : Nat) : Int32 := (if k < 4 then x1 else if k < 8 then x2 else if k < 12 then x3 else if k < 16 then x4 else x5) >>> nI (24 - 8 * (k % 4)) &&& 255
theorem sh_k : ∀ k, k < 20 → ((24 : Int32) - (8 : Int32) * (nI k - nI k / 4 * 4)) &&& 31 = nI (24 - 8 * (k % 4)) := by decide +kernel
theorem b_feed76 {I : Nat → Nat → Int32} {J : Nat → Nat → Int64} {t k : Nat} {x1 x2 x3 x4 x5 w : Int32} {KK : fh_H → Int32 → Int32 → Int32 → Int32 → Int32 → Int32 → Option (Int32 × fh_H)} (hk : k < 20) (h : I 0 35 = nI t) (ht : t < 200) : z_X12_feed_b76 TB 0 KK (I, J, rB) x1 x2 x3 x4 x5 (nI k) w = KK (fh_up (fh_up I 16 t (w >>> nI (24 - 8 * (k % 4)) &&& 255)) 0 35 (nI (t + 1)), J, rB) x1 x2 x3 x4 x5 (nI (k + 1)) := by
  have i1 : fh_in (nI t) 200 = true := in_n ht (by omega)
  have k1 : (nI t).toNatClampNeg = t := nI_clamp (by omega)
  have u1 : ∀ v : Int32, fh_up I 16 t v 0 35 = nI t := fun v => by rw [up_a _ _ _ _ (by decide)]; exact h
  unfold z_X12_feed_b76
  simp only [rB_33, b1_N, kB_N16, ck_N, lB_N16, h, i1, k1, sh_k k hk, let_N, sI_N, u1, nI_1]
theorem b_feed23 {I0 : Nat → Nat → Int32} {J : Nat → Nat → Int64} {t : Nat} {x1 x2 x3 x4 x5 : Int32} (ht : t + 20 ≤ 200) : ∀ (m fuel : Nat) (I : Nat → Nat → Int32) (k : Nat), m < fuel → k + m = 20 → fed 16 0 35 I0 I t ((List.range k).map (bw x1 x2 x3 x4 x5)) →
    ∃ I', z_X12_feed_b23 TB 0 fuel (I, J, rB) x1 x2 x3 x4 x5 (nI k) = some (nI (t + 20), (I', J, rB)) ∧ fed 16 0 35 I0 I' t ((List.range 20).map (bw x1 x2 x3 x4 x5)) := by
  intro m
  induction m with
  | zero =>
    intro fuel I k hf hm h
    obtain ⟨f, rfl⟩ : ∃ f, fuel = f + 1 := ⟨fuel - 1, by omega⟩
    obtain rfl : k = 20 := by omega
    refine ⟨I, ?_, h⟩
    have z : I 0 35 = nI (t + 20) := by have := h.1; rw [List.length_map, List.length_range] at this; exact this
    rw [z_X12_feed_b23, if_pos (by decide)]
    simp only [z]
  | succ m ih =>
    intro fuel I k hf hm h
    obtain ⟨f, rfl⟩ : ∃ f, fuel = f + 1 := ⟨fuel - 1, by omega⟩
    have hk : k < 20 := by omega
    have z : I 0 35 = nI (t + k) := by have := h.1; rw [List.length_map, List.length_range] at this; exact this
    have g := fed_snoc (by decide) (bw x1 x2 x3 x4 x5 k) h
    rw [← rng_snoc, List.length_map, List.length_range] at g
    obtain ⟨I', e, g'⟩ := ih f _ (k + 1) (by omega) (by omega) g
    refine ⟨I', ?_, g'⟩
    rw [← e, z_X12_feed_b23, if_neg (show ¬ (20 : Int32) ≤ nI k from nI_ge (b := 20) (by omega) (by omega))]
    unfold bw
    by_cases k4 : k < 4
    · rw [if_neg (show ¬ (4 : Int32) ≤ nI k from nI_ge (b := 4) (by omega) (by omega)), b_feed76 hk z (by omega), if_pos k4]
    rw [if_pos (show (4 : Int32) ≤ nI k from nI_le (a := 4) (by omega) (by omega)), if_neg k4]
    by_cases k8 : k < 8
    · rw [if_neg (show ¬ (8 : Int32) ≤ nI k from nI_ge (b := 8) (by omega) (by omega)), b_feed76 hk z (by omega), if_pos k8]
    rw [if_pos (show (8 : Int32) ≤ nI k from nI_le (a := 8) (by omega) (by omega)), if_neg k8]
    by_cases k12 : k < 12
    · rw [if_neg (show ¬ (12 : Int32) ≤ nI k from nI_ge (b := 12) (by omega) (by omega)), b_feed76 hk z (by omega), if_pos k12]
    rw [if_pos (show (12 : Int32) ≤ nI k from nI_le (a := 12) (by omega) (by omega)), if_neg k12]
    by_cases k16 : k < 16
    · rw [if_neg (show ¬ (16 : Int32) ≤ nI k from nI_ge (b := 16) (by omega) (by omega)), b_feed76 hk z (by omega), if_pos k16]
    · rw [if_pos (show (16 : Int32) ≤ nI k from nI_le (a := 16) (by omega) (by omega)), b_feed76 hk z (by omega), if_neg k16]
theorem bw_fb (x1 x2 x3 x4 x5 : Int32) : (List.range 20).map (bw x1 x2 x3 x4 x5) = fb5 x1 x2 x3 x4 x5 := by
  rw [show List.range 20 = [0, 1, 2, 3, 4, 5, 6, 7, 8, 9, 10, 11, 12, 13, 14, 15, 16, 17, 18, 19] from rfl]
  rfl
theorem byt (y : Int32) : ∃ k, k < 256 ∧ y &&& 255 = nI k := by
  refine ⟨(y.toBitVec &&& 255#32).toNat, ?_, ?_⟩
  · rw [BitVec.toNat_and]
    exact Nat.lt_of_le_of_lt Nat.and_le_right (by decide)
  · apply Int32.toBitVec_inj.mp
    show y.toBitVec &&& 255#32 = BitVec.ofNat 32 (y.toBitVec &&& 255#32).toNat
    rw [BitVec.ofNat_toNat, BitVec.setWidth_eq]
theorem fb5_byt (x1 x2 x3 x4 x5 : Int32) {j : Nat} (hj : j < 20) : ∃ k, k < 256 ∧ (fb5 x1 x2 x3 x4 x5).getD j 0 = nI k := by
  rw [← bw_fb, List.getD_eq_getElem?_getD, List.getElem?_map, List.getElem?_range hj]
  exact byt _
theorem fb5_len (x1 x2 x3 x4 x5 : Int32) : (fb5 x1 x2 x3 x4 x5).length = 20 := rfl
def nb (b : Nat → Nat) (t : Nat) (l : List Int32) (j : Nat) : Nat := if j < t then b j else (l.getD (j - t) 0).toNatClampNeg % 256
theorem nb_lt {b : Nat → Nat} {t : Nat} {l : List Int32} (h : ∀ j, b j < 256) (j : Nat) : nb b t l j < 256 := by
  unfold nb
  split
  · exact h j
  · exact Nat.mod_lt _ (by decide)
theorem fed_tap {A a k t : Nat} {I I' : Nat → Nat → Int32} {b : Nat → Nat} {x1 x2 x3 x4 x5 : Int32} (hAa : A ≠ a) (h : fed A a k I I' t (fb5 x1 x2 x3 x4 x5)) (hb : ∀ j, j < t → I A j = nI (b j)) : I' a k = nI (t + 20) ∧ ∀ j, j < t + 20 → I' A j = nI (nb b t (fb5 x1 x2 x3 x4 x5) j) := by
  obtain ⟨h1, h2, h3⟩ := h
  rw [fb5_len] at h1 h2 h3
  refine ⟨h1, fun j hj => ?_⟩
  unfold nb
  by_cases c : j < t
  · rw [if_pos c, h3 _ _ (fun q => hAa q.1) (fun q => by omega)]; exact hb j c
  · rw [if_neg c]
    have e := h2 (j - t) (by omega)
    rw [show t + (j - t) = j by omega] at e
    obtain ⟨q, hq, eq⟩ := fb5_byt x1 x2 x3 x4 x5 (j := j - t) (by omega)
    rw [e, eq, nI_clamp (by omega), Nat.mod_eq_of_lt hq]
theorem op_feed {h h2 : fh_H} (i : Inv h h2) (x1 x2 x3 x4 x5 : Int32) : opz (z_X11_feed SA h 0 x1 x2 x3 x4 x5) (z_X12_feed TB h2 0 x1 x2 x3 x4 x5) := by
  obtain ⟨I, J, R, I', J', n, P, t, b, fp, s, c, rfl, rfl, ok, hA, hB⟩ := i.cases
  have hB0 := invB_3 hB 0
  obtain ⟨t1, t2, t3⟩ := hA.2.2.2.2.1
  obtain ⟨u1, u2, u3'⟩ := hB0.2.2.1
  have ht := ok.2.1
  by_cases hc : t + 20 ≤ 200
  · obtain ⟨I1, e1, g1⟩ := a_feed (J := J) hA.1 t1 hc x1 x2 x3 x4 x5
    obtain ⟨I2, e2, g2⟩ := b_feed23 (J := J') hc 20 20000 (fh_up I' 0 3 0) 0 (by omega) (by omega) (fed_nil u1) (x1 := x1) (x2 := x2) (x3 := x3) (x4 := x4) (x5 := x5)
    rw [bw_fb] at g2
    have c0 : nI t + 20 ≤ 200 := by rw [show nI t + 20 = nI (t + 20) from nI_add t 20]; exact nI_le (b := 200) hc (by omega)
    have e2' : z_X12_feed TB (I', J', rB) 0 x1 x2 x3 x4 x5 = some (nI (t + 20), (I2, J', rB)) := by
      unfold z_X12_feed
      have e2 : z_X12_feed_b23 TB 0 20000 (fh_up I' 0 3 0, J', rB) x1 x2 x3 x4 x5 0 = _ := e2
      simp only [let_N, sI_N, u1, c0, if_true, e2]
    have T1 := fed_tap (by decide) g1 t2
    have T2 := fed_tap (by decide) g2 u2
    refine ⟨_, _, _, e1, e2', Inv.mk (t := t + 20) (b := nb b t (fb5 x1 x2 x3 x4 x5)) (fp := fp) (s := s) (c := c) ⟨ok.1, hc, nb_lt ok.2.2.1, ok.2.2.2⟩ (invA_gen hA (fun b j q q1 q2 q3 q4 => g1.2.2 b j (fun z => q1 z.1) (fun z => q2 z.1)) ⟨T1.1, T1.2, ?_⟩ ⟨?_, fun j hj => ?_⟩ hA.1 hA.2.1 (fun _ _ _ _ => rfl)) (invB_gen hB0 (fun b j q => g2.2.2 b j (fun z => by omega) (fun z => by omega)) ⟨T2.1, T2.2, ?_⟩ ⟨?_, fun j hj => ?_⟩)⟩
    · rw [g1.2.2 _ _ (by omega) (by omega)]; exact t3
    · rw [g1.2.2 _ _ (by omega) (by omega)]; exact hA.2.2.2.2.2.1
    · rw [g1.2.2 _ _ (by omega) (by omega)]; exact hA.2.2.2.2.2.2 j hj
    · rw [g2.2.2 _ _ (by omega) (by omega)]; exact u3'
    · rw [g2.2.2 _ _ (by omega) (by omega)]; exact hB0.2.2.2.1
    · rw [g2.2.2 _ _ (by omega) (by omega)]; exact hB0.2.2.2.2 j hj
  · have c0 : ¬ nI t + 20 ≤ 200 := by rw [show nI t + 20 = nI (t + 20) from nI_add t 20]; exact nI_ge (a := 200) (by omega) (by omega)
    refine ⟨-1, _, (fh_up I' 0 3 0, J', rB), a_feed0 hA.1 t1 hc ht x1 x2 x3 x4 x5, ?_, Inv.mk ok hA hB0⟩
    unfold z_X12_feed
    simp only [let_N, sI_N, u1, c0, if_false]
