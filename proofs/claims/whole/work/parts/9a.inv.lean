/-! what stands between calls; the law's words -/
theorem bx_Nr {α β : Type} (a : α) (k : fh_H) (f : α → fh_H → Option ((Nat ⊕ β) × fh_H)) : fh_bx (some (Sum.inr a, k)) f = f a k := id rfl
theorem bx_Nl {α β : Type} (e : Nat) (k : fh_H) (f : α → fh_H → Option ((Nat ⊕ β) × fh_H)) : fh_bx (some (Sum.inl e, k)) f = some (Sum.inl e, k) := id rfl
abbrev Rcp : Type := Nat → Nat → Int32
def hisB (I : Nat → Nat → Int32) (n : Nat) (P : Nat → Rcp) : Prop := I 0 2 = nI n ∧ n ≤ 16 ∧ ∀ k, k < n → ∀ r, r < 10 → ∀ j, j < 109 → I 2 (1090 * k + (109 * r + j)) = P k r j
def rowsB (I : Nat → Nat → Int32) (F : Rcp) : Prop := (∀ r, r < 10 → ∀ j, j < 109 → I 1 (109 * r + j) = F r j) ∧ ∀ i, i < 10 → dB I i (F i 0) (dd F i)
def tapB (I : Nat → Nat → Int32) (t : Nat) (b : Nat → Nat) (fp : Int32) : Prop := I 0 35 = nI t ∧ (∀ j, j < t → I 16 j = nI (b j)) ∧ I 0 43 = fp
def saiB (I : Nat → Nat → Int32) (s : Nat) (c : Nat → Int32) : Prop := I 0 32 = nI s ∧ ∀ j, j < s → I 15 j = c j
def okP (n : Nat) (P : Nat → Rcp) (t : Nat) (b : Nat → Nat) (s : Nat) : Prop := (∀ k, k ≤ n → ∀ r, r < 10 → okr (P k r) r) ∧ t ≤ 200 ∧ (∀ j, b j < 256) ∧ s ≤ 800
def invB (I : Nat → Nat → Int32) (n : Nat) (P : Nat → Rcp) (t : Nat) (b : Nat → Nat) (fp : Int32) (s : Nat) (c : Nat → Int32) : Prop := rowsB I (P n) ∧ hisB I n P ∧ tapB I t b fp ∧ saiB I s c
def hisA (I : Nat → Nat → Int32) (R : Nat → Nat → Option Nat) (n : Nat) (P : Nat → Rcp) : Prop := ∃ (μ : Nat → Nat) (o : Nat), o < 16 ∧ I 8 2 = nI o ∧ I 8 3 = nI n ∧ (∀ x, x < 16 → R 10 x = some (μ x)) ∧ (∀ r, r < 10 → R (58 + 6 * r) 4 = some (μ (16 + r))) ∧ (∀ x, x < 26 → mdA (μ x)) ∧ (∀ x y, x < 26 → y < 26 → μ x = μ y → x = y) ∧
  ∀ k, k < n → ∃ r, r < 10 ∧ R 9 ((o + k) % 16) = some (58 + 6 * r) ∧ mkr (P k r) (I (μ ((o + k) % 16))) (I (μ ((o + k) % 16) + 1)) ∧ ∀ r', r' ≠ r → P k r' = P (k + 1) r'
def tapA (I : Nat → Nat → Int32) (t : Nat) (b : Nat → Nat) (fp : Int32) : Prop := I 48 6 = nI t ∧ (∀ j, j < t → I 49 j = nI (b j)) ∧ I 48 8 = fp
def saiA (I : Nat → Nat → Int32) (s : Nat) (c : Nat → Int32) : Prop := I 56 1 = nI s ∧ ∀ j, j < s → I 57 j = c j
def invA (I : Nat → Nat → Int32) (R : Nat → Nat → Option Nat) (n : Nat) (P : Nat → Rcp) (t : Nat) (b : Nat → Nat) (fp : Int32) (s : Nat) (c : Nat → Int32) : Prop := RA R ∧ hw R ∧ vA I R (P n) ∧ hisA I R n P ∧ tapA I t b fp ∧ saiA I s c
def Inv (h h2 : fh_H) : Prop := h2.2.2 = rB ∧ ∃ n P t b fp s c, okP n P t b s ∧ invA h.1 h.2.2 n P t b fp s c ∧ invB h2.1 n P t b fp s c
theorem Inv.mk {I : Nat → Nat → Int32} {J : Nat → Nat → Int64} {R : Nat → Nat → Option Nat} {I' : Nat → Nat → Int32} {J' : Nat → Nat → Int64} {n : Nat} {P : Nat → Rcp} {t : Nat} {b : Nat → Nat} {fp : Int32} {s : Nat} {c : Nat → Int32} (ok : okP n P t b s) (hA : invA I R n P t b fp s c) (hB : invB I' n P t b fp s c) : Inv (I, J, R) (I', J', rB) := ⟨rfl, n, P, t, b, fp, s, c, ok, hA, hB⟩
/-! frames of the class -/
def kpA (b j : Nat) : Prop := b = 6 ∨ b = 7 ∨ b = 8 ∨ (11 ≤ b ∧ b ≤ 42) ∨ (b = 48 ∧ (j = 6 ∨ j = 8)) ∨ b = 49 ∨ b = 56 ∨ 57 ≤ b
def rF2 (R R' : Nat → Nat → Option Nat) : Prop := ∀ b j, b ≠ 43 → b ≠ 55 → R' b j = R b j
theorem rF.r2 {R R' : Nat → Nat → Option Nat} (h : rF R R') : rF2 R R' := fun b j h1 _ => h b j h1
theorem md_rng {m : Nat} (h : mdA m) : m = 6 ∨ (11 ≤ m ∧ m + 1 ≤ 42) ∨ (62 ≤ m ∧ m ≤ 116 ∧ (m - 62) % 6 = 0) := by
  rcases h with h | ⟨i, hi, rfl⟩ | ⟨r, hr, rfl⟩
  · exact Or.inl h
  · exact Or.inr (Or.inl ⟨by omega, by omega⟩)
  · exact Or.inr (Or.inr ⟨by omega, by omega, by omega⟩)
theorem dA_cong {I I' : Nat → Nat → Int32} {a : Nat} {k : Int32} {D : Dat} (h : dA I a k D) (e : ∀ c j, (c = a ∧ 6 ≤ j) ∨ (a + 1 ≤ c ∧ c ≤ a + 3) → I' c j = I c j) : dA I' a k D := by
  obtain ⟨⟨q1, q2, q3⟩, q4, q5⟩ := h
  exact ⟨⟨by rw [e a 6 (by omega)]; exact q1, lst_cong q2 (fun j _ _ => e _ _ (by omega)), by rw [e a 7 (by omega)]; exact q3⟩, by rw [e a 8 (by omega)]; exact q4, fun z => ⟨lst_cong (q5 z).1 (fun j _ _ => e _ _ (by omega)), lst_cong (q5 z).2 (fun j _ _ => e _ _ (by omega))⟩⟩
theorem mk_cong {f : Nat → Int32} {I I' : Nat → Nat → Int32} {m : Nat} (h : mkr f (I m) (I (m + 1))) (e : ∀ j, I' m j = I m j) (e1 : ∀ j, I' (m + 1) j = I (m + 1) j) : mkr f (I' m) (I' (m + 1)) := by
  rw [funI e, funI e1]; exact h
theorem his_cong {I I' : Nat → Nat → Int32} {R R' : Nat → Nat → Option Nat} {n : Nat} {P : Nat → Rcp} (h : hisA I R n P) (e8 : ∀ j, I' 8 j = I 8 j) (em : ∀ m, mdA m → (∀ j, I' m j = I m j) ∧ ∀ j, I' (m + 1) j = I (m + 1) j) (eR : rF2 R R') : hisA I' R' n P := by
  obtain ⟨μ, o, ho, h2, h3, h10, h4, hm, hi, hk⟩ := h
  refine ⟨μ, o, ho, by rw [e8]; exact h2, by rw [e8]; exact h3, fun x hx => by rw [eR _ _ (by omega) (by omega)]; exact h10 x hx, fun r hr => by rw [eR _ _ (by omega) (by omega)]; exact h4 r hr, hm, hi, fun k hk' => ?_⟩
  obtain ⟨r, g1, g2, g3, g4⟩ := hk k hk'
  have := em _ (hm ((o + k) % 16) (by omega))
  exact ⟨r, g1, by rw [eR _ _ (by omega) (by omega)]; exact g2, mk_cong g3 this.1 this.2, g4⟩
theorem invA_keep {I I' : Nat → Nat → Int32} {R R' : Nat → Nat → Option Nat} {n : Nat} {P : Nat → Rcp} {t : Nat} {b : Nat → Nat} {fp : Int32} {s : Nat} {c : Nat → Int32} (h : invA I R n P t b fp s c) (e : ∀ b j, kpA b j → I' b j = I b j) (hR : RA R') (hh : hw R') (eR : rF2 R R') : invA I' R' n P t b fp s c := by
  obtain ⟨-, -, hv, hH, ⟨t1, t2, t3⟩, s1, s2⟩ := h
  have em : ∀ m, mdA m → (∀ j, I' m j = I m j) ∧ ∀ j, I' (m + 1) j = I (m + 1) j := fun m hm => by
    have := md_rng hm
    exact ⟨fun j => e _ _ (by unfold kpA; omega), fun j => e _ _ (by unfold kpA; omega)⟩
  refine ⟨hR, hh, fun r hr => ?_, his_cong hH (fun j => e _ _ (by unfold kpA; omega)) em eR, ⟨by rw [e _ _ (by unfold kpA; omega)]; exact t1, fun j hj => by rw [e _ _ (by unfold kpA; omega)]; exact t2 j hj, by rw [e _ _ (by unfold kpA; omega)]; exact t3⟩, by rw [e _ _ (by unfold kpA; omega)]; exact s1, fun j hj => by rw [e _ _ (by unfold kpA; omega)]; exact s2 j hj⟩
  obtain ⟨m, h1, h2, h3, h4, h5, h6⟩ := hv r hr
  have q := em m h2
  refine ⟨m, by rw [eR _ _ (by omega) (by omega)]; exact h1, h2, mk_cong h3 q.1 q.2, h4, by rw [e _ _ (by unfold kpA; omega)]; exact h5, ?_⟩
  rcases h6 with ⟨g1, g2⟩ | g1
  · exact Or.inl ⟨by rw [e _ _ (by unfold kpA; omega)]; exact g1, dA_cong g2 (fun c j q => e _ _ (by unfold kpA; omega))⟩
  · exact Or.inr (by rw [e _ _ (by unfold kpA; omega)]; exact g1)
theorem invA_set {I I' : Nat → Nat → Int32} {R R' : Nat → Nat → Option Nat} {n : Nat} {P : Nat → Rcp} {t : Nat} {b : Nat → Nat} {fp : Int32} {s : Nat} {c : Nat → Int32} (h : invA I R n P t b fp s c) (e : sfA I I') (hR : RA R') (hh : hw R') (eR : rF R R') (hv : vA I' R' (P n)) : invA I' R' n P t b fp s c := by
  obtain ⟨-, -, -, hH, ⟨t1, t2, t3⟩, s1, s2⟩ := h
  have em : ∀ m, mdA m → (∀ j, I' m j = I m j) ∧ ∀ j, I' (m + 1) j = I (m + 1) j := fun m hm => by
    have := md_rng hm
    exact ⟨fun j => e _ _ (by omega) (fun r hr => by omega), fun j => e _ _ (by omega) (fun r hr => by omega)⟩
  exact ⟨hR, hh, hv, his_cong hH (fun j => e _ _ (by omega) (fun r hr => by omega)) em eR.r2, ⟨by rw [e _ _ (by omega) (fun r hr => by omega)]; exact t1, fun j hj => by rw [e _ _ (by omega) (fun r hr => by omega)]; exact t2 j hj, by rw [e _ _ (by omega) (fun r hr => by omega)]; exact t3⟩, by rw [e _ _ (by omega) (fun r hr => by omega)]; exact s1, fun j hj => by rw [e _ _ (by omega) (fun r hr => by omega)]; exact s2 j hj⟩
/-- a row is asked for -/
theorem a_set {I : Nat → Nat → Int32} {J : Nat → Nat → Int64} {R : Nat → Nat → Option Nat} {n : Nat} {P : Nat → Rcp} {t : Nat} {b : Nat → Nat} {fp : Int32} {s : Nat} {c : Nat → Int32} {r : Nat} (hr : r < 10) (h : invA I R n P t b fp s c) :
    ∃ I' J' R', z_X11_settled SA (I, J, R) 0 (nI r) = some (Sum.inr (some (58 + 6 * r)), (I', J', R')) ∧ invA I' R' n P t b fp s c ∧ (∀ i, i ≤ r → I' (58 + 6 * i) 5 = 0) ∧ ∀ i, I (58 + 6 * i) 5 = 0 → I' (58 + 6 * i) 5 = 0 := by
  obtain ⟨I', J', R', e, g1, g2, g3, g4, g5, g6⟩ := a_settled (J := J) hr h.1 h.2.1 h.2.2.1
  exact ⟨I', J', R', e, invA_set h g1 g2 g3 g4 g5, g6⟩
theorem a_fresh {I : Nat → Nat → Int32} {R : Nat → Nat → Option Nat} {n : Nat} {P : Nat → Rcp} {t : Nat} {b : Nat → Nat} {fp : Int32} {s : Nat} {c : Nat → Int32} {r : Nat} (hr : r < 10) (h : invA I R n P t b fp s c) (h5 : I (58 + 6 * r) 5 = 0) : dA I (58 + 6 * r) (P n r 0) (dd (P n) r) := by
  obtain ⟨m, -, -, -, -, -, h6⟩ := h.2.2.1 r hr
  refine h6.elim (fun q => q.2) (fun q => ?_)
  rw [h5] at q; exact absurd q (by decide)
/-! frames of the reference -/
def kpB (b j : Nat) : Prop := (1 ≤ b ∧ b ≤ 8) ∨ b = 15 ∨ b = 16 ∨ (b = 0 ∧ (j = 2 ∨ j = 32 ∨ j = 35 ∨ j = 43))
theorem dB_cong {I I' : Nat → Nat → Int32} {r : Nat} {k : Int32} {D : Dat} (h : dB I r k D) (e : ∀ b j, 3 ≤ b → b ≤ 8 → I' b j = I b j) : dB I' r k D := by
  obtain ⟨⟨h4, h3, h5⟩, h6, h7⟩ := h
  exact ⟨⟨by rw [e _ _ (by omega) (by omega)]; exact h4, lst_cong h3 (fun j _ _ => e _ _ (by omega) (by omega)), by rw [e _ _ (by omega) (by omega)]; exact h5⟩, by rw [e _ _ (by omega) (by omega)]; exact h6, fun q => ⟨lst_cong (h7 q).1 (fun j _ _ => e _ _ (by omega) (by omega)), lst_cong (h7 q).2 (fun j _ _ => e _ _ (by omega) (by omega))⟩⟩
theorem invB_keep {I I' : Nat → Nat → Int32} {n : Nat} {P : Nat → Rcp} {t : Nat} {b : Nat → Nat} {fp : Int32} {s : Nat} {c : Nat → Int32} (h : invB I n P t b fp s c) (e : ∀ b j, kpB b j → I' b j = I b j) : invB I' n P t b fp s c := by
  obtain ⟨⟨r1, r2⟩, ⟨a1, a2, a3⟩, ⟨t1, t2, t3⟩, s1, s2⟩ := h
  refine ⟨⟨fun r hr j hj => by rw [e _ _ (by unfold kpB; omega)]; exact r1 r hr j hj, fun i hi => dB_cong (r2 i hi) (fun b j h1 h2 => e _ _ (by unfold kpB; omega))⟩, ⟨by rw [e _ _ (by unfold kpB; omega)]; exact a1, a2, fun k hk r hr j hj => by rw [e _ _ (by unfold kpB; omega)]; exact a3 k hk r hr j hj⟩, ⟨by rw [e _ _ (by unfold kpB; omega)]; exact t1, fun j hj => by rw [e _ _ (by unfold kpB; omega)]; exact t2 j hj, by rw [e _ _ (by unfold kpB; omega)]; exact t3⟩, by rw [e _ _ (by unfold kpB; omega)]; exact s1, fun j hj => by rw [e _ _ (by unfold kpB; omega)]; exact s2 j hj⟩
theorem kp_3 {I : Nat → Nat → Int32} {v : Int32} : ∀ b j, kpB b j → fh_up I 0 3 v b j = I b j := fun b j h => by
  unfold kpB at h
  by_cases q : b = 0
  · rw [up_k _ _ _ _ (by omega)]
  · rw [up_a _ _ _ _ q]
theorem invB_3 {I : Nat → Nat → Int32} {n : Nat} {P : Nat → Rcp} {t : Nat} {b : Nat → Nat} {fp : Int32} {s : Nat} {c : Nat → Int32} (h : invB I n P t b fp s c) (v : Int32) : invB (fh_up I 0 3 v) n P t b fp s c := invB_keep h kp_3
/-! the law's step -/
def opx (c0 c1 : Option Int32) (zA : Option ((Nat ⊕ Int32) × fh_H)) (zB : Option (Int32 × fh_H)) : Prop := ∃ h1 v h2, Inv h1 h2 ∧ zB = some (v, h2) ∧ ((zA = some (Sum.inr v, h1) ∧ h2.1 0 3 = 0) ∨ (∃ e c, zA = some (Sum.inl e, h1) ∧ h2.1 0 3 = c ∧ ¬ c = 0 ∧ (e = 0 ∧ c0 = some c ∨ e = 1 ∧ c1 = some c)))
def opy (c0 c1 : Option Int32) (zA : Option ((Nat ⊕ Int64) × fh_H)) (zB : Option (Int64 × fh_H)) : Prop := ∃ h1 v h2, Inv h1 h2 ∧ zB = some (v, h2) ∧ ((zA = some (Sum.inr v, h1) ∧ h2.1 0 3 = 0) ∨ (∃ e c, zA = some (Sum.inl e, h1) ∧ h2.1 0 3 = c ∧ ¬ c = 0 ∧ (e = 0 ∧ c0 = some c ∨ e = 1 ∧ c1 = some c)))
theorem opx_r {c0 c1 : Option Int32} {zA : Option ((Nat ⊕ Int32) × fh_H)} {zB : Option (Int32 × fh_H)} {h1 h2 : fh_H} {v : Int32} (i : Inv h1 h2) (eA : zA = some (Sum.inr v, h1)) (eB : zB = some (v, h2)) (e3 : h2.1 0 3 = 0) : opx c0 c1 zA zB := ⟨h1, v, h2, i, eB, Or.inl ⟨eA, e3⟩⟩
theorem opx_l1 {c0 : Option Int32} {zA : Option ((Nat ⊕ Int32) × fh_H)} {zB : Option (Int32 × fh_H)} {h1 h2 : fh_H} {v : Int32} (i : Inv h1 h2) (eA : zA = some (Sum.inl 1, h1)) (eB : zB = some (v, h2)) (e3 : h2.1 0 3 = 1) : opx c0 (some 1) zA zB := ⟨h1, v, h2, i, eB, Or.inr ⟨1, 1, eA, e3, by decide, Or.inr ⟨rfl, rfl⟩⟩⟩
theorem opx_l0 {c1 : Option Int32} {k : Int32} {zA : Option ((Nat ⊕ Int32) × fh_H)} {zB : Option (Int32 × fh_H)} {h1 h2 : fh_H} {v : Int32} (i : Inv h1 h2) (eA : zA = some (Sum.inl 0, h1)) (eB : zB = some (v, h2)) (e3 : h2.1 0 3 = k) (hk : ¬ k = 0) : opx (some k) c1 zA zB := ⟨h1, v, h2, i, eB, Or.inr ⟨0, k, eA, e3, hk, Or.inl ⟨rfl, rfl⟩⟩⟩
theorem Inv.sJ {h h2 : fh_H} (i : Inv h h2) (a k : Nat) (v : Int64) : Inv (fh_sJ h a k v) h2 := i
theorem in_0_1 : fh_in 0 1 = true := by decide
theorem law_x {c0 c1 : Option Int32} {zA : Option ((Nat ⊕ Int32) × fh_H)} {zB : Option (Int32 × fh_H)} {KK : fh_H → fh_H → Option Unit} (hK : ∀ h h2, Inv h h2 → KK h h2 = some ()) (H : opx c0 c1 zA zB) : (fh_b2 (fl_b zA c0 c1 (fun r h1 => fh_ck (fh_kq SA 118 14) (fh_ck (fh_in 0 (SA.2.2 118)) (fh_let (fh_sJ h1 118 (Int32.toNatClampNeg 0) (Int32.toInt64 r)) (fun h2 => some ((0 : Int32), h2)))))) (fun r3 h4 => fh_b2 zB (fun r6 h8 => fh_b1 (z_X12_thrown TB h8 0) (fun r9 => if r9 = r3 then (if r3 = 0 then (fh_ck (fh_kq SA 118 14) (fh_ck (fh_in 0 (SA.2.2 118)) (if (h4.2.1 118 (Int32.toNatClampNeg 0)) = (Int32.toInt64 r6) then (KK h4 h8) else none))) else (KK h4 h8)) else none)))) = some () := by
  obtain ⟨h1, v, h2, i, eB, H⟩ := H
  rcases H with ⟨eA, e3⟩ | ⟨e, c, eA, e3, hc, he⟩
  · rw [eA, eB]
    simp only [fl_b, kA_118, ck_N, lA_118, in_0_1, let_N, b2_N, z_X12_thrown, b1_N, e3]
    rw [if_pos trivial, if_pos trivial]
    have e5 : (fh_sJ h1 118 (Int32.toNatClampNeg 0) v.toInt64).2.1 118 (Int32.toNatClampNeg 0) = v.toInt64 := by simp only [fh_sJ]; exact up_s _ _ _ _
    rw [e5, if_pos rfl]
    exact hK _ _ (i.sJ _ _ _)
  · rw [eA, eB]
    rcases he with ⟨rfl, rfl⟩ | ⟨rfl, rfl⟩
    · simp only [fl_b, if_true, Option.map_some, b2_N, z_X12_thrown, b1_N, e3, hc, if_false]
      exact hK _ _ i
    · simp only [fl_b, if_true, Option.map_some, b2_N, z_X12_thrown, b1_N, e3, hc, if_false, Nat.one_ne_zero]
      exact hK _ _ i
theorem law_y {c0 c1 : Option Int32} {zA : Option ((Nat ⊕ Int64) × fh_H)} {zB : Option (Int64 × fh_H)} {KK : fh_H → fh_H → Option Unit} (hK : ∀ h h2, Inv h h2 → KK h h2 = some ()) (H : opy c0 c1 zA zB) : (fh_b2 (fl_b zA c0 c1 (fun r h1 => fh_ck (fh_kq SA 118 14) (fh_ck (fh_in 0 (SA.2.2 118)) (fh_let (fh_sJ h1 118 (Int32.toNatClampNeg 0) r) (fun h2 => some ((0 : Int32), h2)))))) (fun r3 h4 => fh_b2 zB (fun r6 h8 => fh_b1 (z_X12_thrown TB h8 0) (fun r9 => if r9 = r3 then (if r3 = 0 then (fh_ck (fh_kq SA 118 14) (fh_ck (fh_in 0 (SA.2.2 118)) (if (h4.2.1 118 (Int32.toNatClampNeg 0)) = r6 then (KK h4 h8) else none))) else (KK h4 h8)) else none)))) = some () := by
  obtain ⟨h1, v, h2, i, eB, H⟩ := H
  rcases H with ⟨eA, e3⟩ | ⟨e, c, eA, e3, hc, he⟩
  · rw [eA, eB]
    simp only [fl_b, kA_118, ck_N, lA_118, in_0_1, let_N, b2_N, z_X12_thrown, b1_N, e3]
    rw [if_pos trivial, if_pos trivial]
    have e5 : (fh_sJ h1 118 (Int32.toNatClampNeg 0) v).2.1 118 (Int32.toNatClampNeg 0) = v := by simp only [fh_sJ]; exact up_s _ _ _ _
    rw [e5, if_pos rfl]
    exact hK _ _ (i.sJ _ _ _)
  · rw [eA, eB]
    rcases he with ⟨rfl, rfl⟩ | ⟨rfl, rfl⟩
    · simp only [fl_b, if_true, Option.map_some, b2_N, z_X12_thrown, b1_N, e3, hc, if_false]
      exact hK _ _ i
    · simp only [fl_b, if_true, Option.map_some, b2_N, z_X12_thrown, b1_N, e3, hc, if_false, Nat.one_ne_zero]
      exact hK _ _ i
/-! numbers within bounds -/
theorem i32_nlt {a b : Int32} : ¬ a < b ↔ b ≤ a := by rw [Int32.lt_iff_toInt_lt, Int32.le_iff_toInt_le]; omega
theorem i32_nle {a b : Int32} : ¬ a ≤ b ↔ b < a := by rw [Int32.lt_iff_toInt_lt, Int32.le_iff_toInt_le]; omega
theorem l_lt (a b : Int32) : a.toInt64 < b.toInt64 ↔ a < b := by rw [Int64.lt_iff_toInt_lt, Int32.toInt_toInt64, Int32.toInt_toInt64, Int32.lt_iff_toInt_lt]
theorem b_isIn (x lo hi : Int32) : z_X12_isIn x.toInt64 lo.toInt64 hi.toInt64 = some (if lo ≤ x ∧ x ≤ hi then 1 else 0) := by
  unfold z_X12_isIn
  simp only [l_lt]
  by_cases h1 : x < lo
  · rw [if_pos h1, if_neg (fun q => i32_nlt.mpr q.1 h1)]
  · rw [if_neg h1]
    by_cases h2 : hi < x
    · rw [if_pos h2, if_neg (fun q => i32_nlt.mpr q.2 h2)]
    · rw [if_neg h2, if_pos ⟨i32_nlt.mp h1, i32_nlt.mp h2⟩]
theorem a_within (x s : Int32) : z_X11_within x s = some (if -s ≤ x ∧ x ≤ s then 1 else 0) := by
  unfold z_X11_within
  by_cases h1 : x < -s
  · rw [if_pos h1, if_neg (fun q => i32_nlt.mpr q.1 h1)]
  · rw [if_neg h1]
    by_cases h2 : s < x
    · rw [if_pos h2, if_neg (fun q => i32_nlt.mpr q.2 h2)]
    · rw [if_neg h2, if_pos ⟨i32_nlt.mp h1, i32_nlt.mp h2⟩]
theorem row_in {x : Int32} : (0 ≤ x ∧ x ≤ 9) ↔ ∃ i : Nat, i < 10 ∧ x = nI i := by
  constructor
  · rintro ⟨h1, h2⟩
    obtain ⟨j, hj, e⟩ := nI_of2 (M := 9) (n := 9) rfl (i32_nlt.mpr h1) h2
    exact ⟨j, by omega, e⟩
  · rintro ⟨i, hi, rfl⟩
    exact ⟨nI_pos' (by omega), nI_le (b := 9) (by omega) (by omega)⟩
theorem b_isRow0 (x : Int32) : z_X12_isRow x = some (if 0 ≤ x ∧ x ≤ 9 then 1 else 0) := by
  unfold z_X12_isRow
  rw [show (0 : Int64) = (0 : Int32).toInt64 from rfl, show (9 : Int64) = (9 : Int32).toInt64 from rfl, b_isIn, b1_N]
  by_cases h : 0 ≤ x ∧ x ≤ 9
  · rw [if_pos h]; rfl
  · rw [if_neg h]; rfl
theorem b_isRow {r : Nat} (hr : r < 10) : z_X12_isRow (nI r) = some 1 := by rw [b_isRow0, if_pos (row_in.mpr ⟨r, hr, rfl⟩)]
theorem b_isRow_no {x : Int32} (h : ¬ ∃ i : Nat, i < 10 ∧ x = nI i) : z_X12_isRow x = some 0 := by rw [b_isRow0, if_neg (fun q => h (row_in.mp q))]
theorem b_fail {I : Nat → Nat → Int32} {J : Nat → Nat → Int64} {R : Nat → Nat → Option Nat} (v w : Int32) : z_X12_fail TB (fh_up I 0 3 w, J, R) 0 v = some (0, (fh_up I 0 3 v, J, R)) := by
  unfold z_X12_fail
  rw [let_N, sI_N]
  congr 3
  funext b j
  by_cases h : b = 0 ∧ j = 3 <;> simp [fh_up, h]
