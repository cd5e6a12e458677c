/-! calls that change rows -/
theorem Inv.cases {h h2 : fh_H} (i : Inv h h2) : ∃ I J R I' J' n P t b fp s c, h = (I, J, R) ∧ h2 = (I', J', rB) ∧ okP n P t b s ∧ invA I R n P t b fp s c ∧ invB I' n P t b fp s c := by
  obtain ⟨I, J, R⟩ := h
  obtain ⟨I', J', R'⟩ := h2
  obtain ⟨hR, n, P, t, b, fp, s, c, ok, hA, hB⟩ := i
  have hR : R' = rB := hR
  subst hR
  exact ⟨I, J, R, I', J', n, P, t, b, fp, s, c, rfl, rfl, ok, hA, hB⟩
def opz (zA zB : Option (Int32 × fh_H)) : Prop := ∃ v h1 h2, zA = some (v, h1) ∧ zB = some (v, h2) ∧ Inv h1 h2
theorem law_z {zA zB : Option (Int32 × fh_H)} {KK : fh_H → fh_H → Option Unit} (hK : ∀ h h2, Inv h h2 → KK h h2 = some ()) (H : opz zA zB) : fh_b2 zA (fun r4 h6 => fh_b2 zB (fun r7 h9 => if r4 = r7 then KK h6 h9 else none)) = some () := by
  obtain ⟨v, h1, h2, eA, eB, i⟩ := H
  rw [eA, eB, b2_N, b2_N, if_pos rfl]; exact hK _ _ i
def becI (I : Nat → Nat → Int32) (m : Nat) (k i j a b c d : Int32) : Nat → Nat → Int32 := fh_up (fh_up (fh_up (fh_up (fh_up (fh_up (fh_up I m 0 k) m 1 i) m 2 j) m 3 a) m 4 b) m 5 c) m 6 d
theorem a_become {I : Nat → Nat → Int32} {J : Nat → Nat → Int64} {R : Nat → Nat → Option Nat} {m : Nat} (k i j a b c d : Int32) : z_X3_become SA (I, J, R) m k i j a b c d = some (becI I m k i j a b c d, J, R) := by
  unfold z_X3_become becI
  simp only [let_N, sI_N]
theorem becI_o {I : Nat → Nat → Int32} {m : Nat} {k i j a b c d : Int32} {x : Nat} (y : Nat) (h : x ≠ m) : becI I m k i j a b c d x y = I x y := by
  unfold becI
  simp only [up_a _ _ _ _ h]
theorem becI_v {I : Nat → Nat → Int32} {m : Nat} {k i j a b c d : Int32} : becI I m k i j a b c d m 0 = k ∧ becI I m k i j a b c d m 1 = i ∧ becI I m k i j a b c d m 2 = j ∧ becI I m k i j a b c d m 3 = a ∧ becI I m k i j a b c d m 4 = b ∧ becI I m k i j a b c d m 5 = c ∧ becI I m k i j a b c d m 6 = d := by
  unfold becI
  refine ⟨?_, ?_, ?_, ?_, ?_, ?_, ?_⟩ <;> simp (disch := omega) only [up_s, up_k]
theorem a_chg {I : Nat → Nat → Int32} {J : Nat → Nat → Int64} {R : Nat → Nat → Option Nat} {n : Nat} {P : Nat → Rcp} {t : Nat} {b : Nat → Nat} {fp : Int32} {s : Nat} {c : Nat → Int32} {r : Nat} {f : Nat → Int32} (k0 i0 j0 a0 b0 c0 d0 : Int32) (hr : r < 10) (hn : n ≤ 16) (ok : okP n P t b s) (h : invA I R n P t b fp s c) (okf : okr f r)
    (hmk : ∀ g t : Nat → Int32, g 0 = k0 → g 1 = i0 → g 2 = j0 → g 3 = a0 → g 4 = b0 → g 5 = c0 → g 6 = d0 → mkr f g t) : ∃ I3 R3, fh_b2 (z_X11_act SA (I, J, R) 0 (58 + 6 * r)) (fun r10 h11 => fh_b1 r10 (fun j13 => fh_ck (fh_kq SA j13 3) (fh_b1 (z_X3_become SA h11 j13 k0 i0 j0 a0 b0 c0 d0) (fun h15 => some ((1 : Int32), h15))))) = some (1, (I3, J, R3)) ∧ invA I3 R3 (nN n) (nP n P (nF (P n) r f)) t b fp s c := by
  obtain ⟨I2, R2, m', e, hm', hR2, hh2, out, key⟩ := a_act (J := J) hr hn (ok.1 n (Nat.le_refl _)) h
  obtain ⟨v0, v1, v2, v3, v4, v5, v6⟩ := becI_v (I := I2) (m := m') (k := k0) (i := i0) (j := j0) (a := a0) (b := b0) (c := c0) (d := d0)
  refine ⟨becI I2 m' k0 i0 j0 a0 b0 c0 d0, R2, ?_, key _ f (fun b j q _ _ => becI_o j q) (hmk _ _ v0 v1 v2 v3 v4 v5 v6) okf⟩
  rw [e, b2_N, b1_N, (mdA_k hm').1, ck_N, a_become, b1_N]
theorem Inv.b3 {I : Nat → Nat → Int32} {J : Nat → Nat → Int64} {R : Nat → Nat → Option Nat} {I' : Nat → Nat → Int32} {J' : Nat → Nat → Int64} {n : Nat} {P : Nat → Rcp} {t : Nat} {b : Nat → Nat} {fp : Int32} {s : Nat} {c : Nat → Int32} (ok : okP n P t b s) (hA : invA I R n P t b fp s c) (hB : invB I' n P t b fp s c) (v : Int32) : Inv (I, J, R) (fh_up I' 0 3 v, J', rB) := Inv.mk ok hA (invB_3 hB v)
theorem l_le (a b : Int32) : a.toInt64 ≤ b.toInt64 ↔ a ≤ b := by rw [Int64.le_iff_toInt_le, Int32.toInt_toInt64, Int32.toInt_toInt64, Int32.le_iff_toInt_le]
theorem one0 : ¬ (1 : Int32) = 0 := by decide
theorem bec_0 (k a b c d : Int32) : bec k a b c d 0 = k := rfl
theorem bec_1 (k a b c d : Int32) : bec k a b c d 1 = a := rfl
theorem bec_2 (k a b c d : Int32) : bec k a b c d 2 = b := rfl
theorem bec_3 (k a b c d : Int32) : bec k a b c d 3 = c := rfl
theorem bec_4 (k a b c d : Int32) : bec k a b c d 4 = d := rfl
theorem b_fin {I I1 : Nat → Nat → Int32} {J : Nat → Nat → Int64} {n : Nat} {P : Nat → Rcp} {t : Nat} {b : Nat → Nat} {fp : Int32} {s : Nat} {c : Nat → Int32} {r : Nat} {f : Nat → Int32} (hr : r < 10) (ok : okP n P t b s) (h : invB I n P t b fp s c) (okf : okr f r) (hm : midB I I1 n P r f) (o1 : ∀ j, j ≠ 2 → I1 0 j = I 0 j) : ∃ I' J', z_X12_layAll TB (I1, J, rB) 0 = some (I', J', rB) ∧ invB I' (nN n) (nP n P (nF (P n) r f)) t b fp s c := by
  obtain ⟨I4, J4, e4, o4, iB⟩ := b_chg (J := J) (c := c) (fp := fp) hr ok h okf hm (by
    obtain ⟨t1, t2, t3⟩ := h.2.2.1
    exact ⟨(o1 35 (by decide)).trans t1, fun j hj => (hm.1 16 j (by unfold kpB; omega) (by decide) (by omega) (by omega)).trans (t2 j hj), (o1 43 (by decide)).trans t3⟩) (by
    obtain ⟨t1, t2⟩ := h.2.2.2
    exact ⟨(o1 32 (by decide)).trans t1, fun j hj => (hm.1 15 j (by unfold kpB; omega) (by decide) (by omega) (by omega)).trans (t2 j hj)⟩)
  exact ⟨I4, J4, e4, iB⟩
theorem op_fraction {h h2 : fh_H} (i : Inv h h2) (x1 x2 x3 : Int32) : opz (z_X11_fraction SA h 0 x1 x2 x3) (z_X12_fraction TB h2 0 x1 x2 x3) := by
  obtain ⟨I, J, R, I', J', n, P, t, b, fp, s, c, rfl, rfl, ok, hA, hB⟩ := i.cases
  have no : ∀ v w, z_X11_fraction SA (I, J, R) 0 x1 x2 x3 = some (v, (I, J, R)) → z_X12_fraction TB (I', J', rB) 0 x1 x2 x3 = some (w, (fh_up I' 0 3 0, J', rB)) → v = w → opz (z_X11_fraction SA (I, J, R) 0 x1 x2 x3) (z_X12_fraction TB (I', J', rB) 0 x1 x2 x3) := fun v w e1 e2 e3 => ⟨v, _, _, e1, e3 ▸ e2, Inv.b3 ok hA hB 0⟩
  by_cases hx : ∃ r : Nat, r < 10 ∧ x1 = nI r
  · obtain ⟨r, hr, rfl⟩ := hx
    have eA : z_X11_fraction SA (I, J, R) 0 (nI r) x2 x3 = (if (if -9999 ≤ x2 ∧ x2 ≤ 9999 then (1 : Int32) else 0) = 0 then some (0, (I, J, R)) else if x3 < 1 then some (0, (I, J, R)) else if x3 ≤ 9999 then fh_b2 (z_X11_act SA (I, J, R) 0 (58 + 6 * r)) (fun r10 h11 => fh_b1 r10 (fun j13 => fh_ck (fh_kq SA j13 3) (fh_b1 (z_X3_become SA h11 j13 0 0 0 x2 x3 0 0) (fun h15 => some ((1 : Int32), h15))))) else some (0, (I, J, R))) := by
      unfold z_X11_fraction
      rw [a_find hA.1 hr, b1_N, nn_Ns, a_within, b1_N, (rwA_k (rwA_r hr)).1, ck_N]
    have eB : z_X12_fraction TB (I', J', rB) 0 (nI r) x2 x3 = (if (if -9999 ≤ x2 ∧ x2 ≤ 9999 then (1 : Int32) else 0) = 0 then some (0, (fh_up I' 0 3 0, J', rB)) else if (if 1 ≤ x3 ∧ x3 ≤ 9999 then (1 : Int32) else 0) = 0 then some (0, (fh_up I' 0 3 0, J', rB)) else fh_b1 (z_X12_become TB (fh_up I' 0 3 0, J', rB) 0 (nI r) 0 x2 x3 0 0) (fun h11 => fh_b1 (z_X12_layAll TB h11 0) (fun h13 => some ((1 : Int32), h13)))) := by
      unfold z_X12_fraction
      rw [let_N, sI_N, b_isRow hr, b1_N, if_neg one0, show (-9999 : Int64) = (-9999 : Int32).toInt64 from rfl, show (9999 : Int64) = (9999 : Int32).toInt64 from rfl, show (1 : Int64) = (1 : Int32).toInt64 from rfl, b_isIn, b1_N, b_isIn, b1_N]
    by_cases hp : -9999 ≤ x2 ∧ x2 ≤ 9999
    · rw [if_pos hp, if_neg one0] at eA eB
      by_cases hq : 1 ≤ x3 ∧ x3 ≤ 9999
      · rw [if_neg (i32_nlt.mpr hq.1), if_pos hq.2] at eA
        rw [if_pos hq, if_neg one0] at eB
        have okf : okr (bec 0 x2 x3 0 0) r := Or.inl ⟨rfl, by
          show (0 : Int32).toInt64 ≤ x3.toInt64
          rw [l_le]
          have h1 := Int32.le_iff_toInt_le.mp hq.1
          have h2 : (1 : Int32).toInt = 1 := rfl
          rw [Int32.le_iff_toInt_le]
          have h3 : (0 : Int32).toInt = 0 := rfl
          omega, Int32.le_iff_toInt_le.mp hp.1⟩
        obtain ⟨I3, R3, e3, iA⟩ := a_chg (J := J) (f := bec 0 x2 x3 0 0) 0 0 0 x2 x3 0 0 hr hB.2.1.2.1 ok hA okf (fun g t g0 g1 g2 g3 g4 g5 g6 => ⟨g0, fun _ => ⟨g3, g4⟩, fun q => absurd q (by rw [bec_0]; decide), fun q => absurd q (by rw [bec_0]; decide), fun q => absurd q (by rw [bec_0]; decide), fun q => absurd q (by rw [bec_0]; decide)⟩)
        have hB3 := invB_3 hB 0
        obtain ⟨I1, e1, mid, o1⟩ := b_become (J := J') hr hB3.2.1 hB3.1.1 0 x2 x3 0 0
        obtain ⟨I4, J4, e4, iB⟩ := b_fin (J := J') hr ok hB3 okf mid o1
        rw [e3] at eA
        rw [e1, b1_N, e4, b1_N] at eB
        exact ⟨1, _, _, eA, eB, Inv.mk (okP_n ok okf) iA iB⟩
      · rw [if_neg hq, if_pos rfl] at eB
        refine no 0 0 ?_ eB rfl
        rw [eA]
        by_cases h1 : x3 < 1
        · rw [if_pos h1]
        · rw [if_neg h1, if_neg (fun h2 => hq ⟨i32_nlt.mp h1, h2⟩)]
    · rw [if_neg hp, if_pos rfl] at eA eB
      exact no 0 0 eA eB rfl
  · refine no 0 0 ?_ ?_ rfl
    · unfold z_X11_fraction
      rw [a_find_no hA.1 hx, b1_N, nn_Nn]
    · unfold z_X12_fraction
      rw [let_N, sI_N, b_isRow_no hx, b1_N, if_pos rfl]
theorem op_root {h h2 : fh_H} (i : Inv h h2) (x1 x2 x3 x4 : Int32) : opz (z_X11_root SA h 0 x1 x2 x3 x4) (z_X12_root TB h2 0 x1 x2 x3 x4) := by
  obtain ⟨I, J, R, I', J', n, P, t, b, fp, s, c, rfl, rfl, ok, hA, hB⟩ := i.cases
  have no : ∀ v w, z_X11_root SA (I, J, R) 0 x1 x2 x3 x4 = some (v, (I, J, R)) → z_X12_root TB (I', J', rB) 0 x1 x2 x3 x4 = some (w, (fh_up I' 0 3 0, J', rB)) → v = w → opz (z_X11_root SA (I, J, R) 0 x1 x2 x3 x4) (z_X12_root TB (I', J', rB) 0 x1 x2 x3 x4) := fun v w e1 e2 e3 => ⟨v, _, _, e1, e3 ▸ e2, Inv.b3 ok hA hB 0⟩
  by_cases hx : ∃ r : Nat, r < 10 ∧ x1 = nI r
  · obtain ⟨r, hr, rfl⟩ := hx
    have eA : z_X11_root SA (I, J, R) 0 (nI r) x2 x3 x4 = (if (if -999 ≤ x2 ∧ x2 ≤ 999 then (1 : Int32) else 0) = 0 then some (0, (I, J, R)) else if x3 < 0 then some (0, (I, J, R)) else if x3 ≤ 9999 then (if x4 = 0 then some (0, (I, J, R)) else if (if -99 ≤ x4 ∧ x4 ≤ 99 then (1 : Int32) else 0) = 0 then some (0, (I, J, R)) else fh_b2 (z_X11_act SA (I, J, R) 0 (58 + 6 * r)) (fun r10 h11 => fh_b1 r10 (fun j13 => fh_ck (fh_kq SA j13 3) (fh_b1 (z_X3_become SA h11 j13 1 0 0 x2 x3 x4 0) (fun h15 => some ((1 : Int32), h15)))))) else some (0, (I, J, R))) := by
      unfold z_X11_root
      rw [a_find hA.1 hr, b1_N, nn_Ns, a_within, b1_N, a_within, b1_N, (rwA_k (rwA_r hr)).1, ck_N]
    have eB : z_X12_root TB (I', J', rB) 0 (nI r) x2 x3 x4 = (if (if -999 ≤ x2 ∧ x2 ≤ 999 then (1 : Int32) else 0) = 0 then some (0, (fh_up I' 0 3 0, J', rB)) else if (if 0 ≤ x3 ∧ x3 ≤ 9999 then (1 : Int32) else 0) = 0 then some (0, (fh_up I' 0 3 0, J', rB)) else if (if -99 ≤ x4 ∧ x4 ≤ 99 then (1 : Int32) else 0) = 0 then some (0, (fh_up I' 0 3 0, J', rB)) else if x4 = 0 then some (0, (fh_up I' 0 3 0, J', rB)) else fh_b1 (z_X12_become TB (fh_up I' 0 3 0, J', rB) 0 (nI r) 1 x2 x3 x4 0) (fun h11 => fh_b1 (z_X12_layAll TB h11 0) (fun h13 => some ((1 : Int32), h13)))) := by
      unfold z_X12_root
      rw [let_N, sI_N, b_isRow hr, b1_N, if_neg one0, show (-999 : Int64) = (-999 : Int32).toInt64 from rfl, show (999 : Int64) = (999 : Int32).toInt64 from rfl, show (9999 : Int64) = (9999 : Int32).toInt64 from rfl, show (0 : Int64) = (0 : Int32).toInt64 from rfl, show (-99 : Int64) = (-99 : Int32).toInt64 from rfl, show (99 : Int64) = (99 : Int32).toInt64 from rfl, b_isIn, b1_N, b_isIn, b1_N, b_isIn, b1_N]
    by_cases hp : -999 ≤ x2 ∧ x2 ≤ 999
    · rw [if_pos hp, if_neg one0] at eA eB
      by_cases hq : 0 ≤ x3 ∧ x3 ≤ 9999
      · rw [if_neg (i32_nlt.mpr hq.1), if_pos hq.2] at eA
        rw [if_pos hq, if_neg one0] at eB
        by_cases hz : x4 = 0
        · rw [if_pos hz] at eA
          refine no 0 0 eA ?_ rfl
          rw [eB]
          by_cases hw : -99 ≤ x4 ∧ x4 ≤ 99
          · rw [if_pos hw, if_neg one0, if_pos hz]
          · rw [if_neg hw, if_pos rfl]
        by_cases hw : -99 ≤ x4 ∧ x4 ≤ 99
        · rw [if_neg hz, if_pos hw, if_neg one0] at eA
          rw [if_pos hw, if_neg one0, if_neg hz] at eB
          have okf : okr (bec 1 x2 x3 x4 0) r := Or.inr (Or.inl ⟨rfl, by
            have a1 := Int32.le_iff_toInt_le.mp hp.1
            have a2 := Int32.le_iff_toInt_le.mp hp.2
            have a3 := Int32.le_iff_toInt_le.mp hq.1
            have a4 := Int32.le_iff_toInt_le.mp hq.2
            have a5 := Int32.le_iff_toInt_le.mp hw.1
            have a6 := Int32.le_iff_toInt_le.mp hw.2
            exact ⟨⟨a1, a2⟩, ⟨a3, a4⟩, ⟨a5, a6⟩, fun e => hz (Int32.toInt_inj.mp e)⟩⟩)
          obtain ⟨I3, R3, e3, iA⟩ := a_chg (J := J) (f := bec 1 x2 x3 x4 0) 1 0 0 x2 x3 x4 0 hr hB.2.1.2.1 ok hA okf (fun g t g0 g1 g2 g3 g4 g5 g6 => ⟨g0, fun q => absurd q (by rw [bec_0]; decide), fun _ => ⟨g3, g4, g5⟩, fun q => absurd q (by rw [bec_0]; decide), fun q => absurd q (by rw [bec_0]; decide), fun q => absurd q (by rw [bec_0]; decide)⟩)
          have hB3 := invB_3 hB 0
          obtain ⟨I1, e1, mid, o1⟩ := b_become (J := J') hr hB3.2.1 hB3.1.1 1 x2 x3 x4 0
          obtain ⟨I4, J4, e4, iB⟩ := b_fin (J := J') hr ok hB3 okf mid o1
          rw [e3] at eA
          rw [e1, b1_N, e4, b1_N] at eB
          exact ⟨1, _, _, eA, eB, Inv.mk (okP_n ok okf) iA iB⟩
        · rw [if_neg hz, if_neg hw, if_pos rfl] at eA
          rw [if_neg hw, if_pos rfl] at eB
          exact no 0 0 eA eB rfl
      · rw [if_neg hq, if_pos rfl] at eB
        refine no 0 0 ?_ eB rfl
        rw [eA]
        by_cases h1 : x3 < 0
        · rw [if_pos h1]
        · rw [if_neg h1, if_neg (fun h2 => hq ⟨i32_nlt.mp h1, h2⟩)]
    · rw [if_neg hp, if_pos rfl] at eA eB
      exact no 0 0 eA eB rfl
  · refine no 0 0 ?_ ?_ rfl
    · unfold z_X11_root
      rw [a_find_no hA.1 hx, b1_N, nn_Nn]
    · unfold z_X12_root
      rw [let_N, sI_N, b_isRow_no hx, b1_N, if_pos rfl]
def smal (a b c d : Int32) : Prop := (-999 ≤ a ∧ a ≤ 999) ∧ (-999 ≤ b ∧ b ≤ 999) ∧ (-999 ≤ c ∧ c ≤ 999) ∧ (-999 ≤ d ∧ d ≤ 999) ∧ ¬ (c = 0 ∧ d = 0)
theorem a_fits10 (a b c d : Int32) : z_X11_fitsSingle_b10 a b c d = some (if (-999 ≤ a ∧ a ≤ 999) ∧ (-999 ≤ b ∧ b ≤ 999) ∧ (-999 ≤ c ∧ c ≤ 999) ∧ (-999 ≤ d ∧ d ≤ 999) then 1 else 0) := by
  unfold z_X11_fitsSingle_b10
  rw [a_within, b1_N]
  by_cases h1 : -999 ≤ a ∧ a ≤ 999
  · rw [if_pos h1, if_neg one0, a_within, b1_N]
    by_cases h2 : -999 ≤ b ∧ b ≤ 999
    · rw [if_pos h2, if_neg one0, a_within, b1_N]
      by_cases h3 : -999 ≤ c ∧ c ≤ 999
      · rw [if_pos h3, if_neg one0, a_within, b1_N]
        by_cases h4 : -999 ≤ d ∧ d ≤ 999
        · rw [if_pos h4, if_neg one0, if_pos ⟨h1, h2, h3, h4⟩]
        · rw [if_neg h4, if_pos rfl, if_neg (fun q => h4 q.2.2.2)]
      · rw [if_neg h3, if_pos rfl, if_neg (fun q => h3 q.2.2.1)]
    · rw [if_neg h2, if_pos rfl, if_neg (fun q => h2 q.2.1)]
  · rw [if_neg h1, if_pos rfl, if_neg (fun q => h1 q.1)]
theorem a_fits {a b c d : Int32} : (smal a b c d → z_X11_fitsSingle a b c d = some 1) ∧ (¬ smal a b c d → z_X11_fitsSingle a b c d = some 0) := by
  unfold z_X11_fitsSingle
  rw [a_fits10]
  constructor
  · rintro ⟨h1, h2, h3, h4, h5⟩
    have q : (-999 ≤ a ∧ a ≤ 999) ∧ (-999 ≤ b ∧ b ≤ 999) ∧ (-999 ≤ c ∧ c ≤ 999) ∧ (-999 ≤ d ∧ d ≤ 999) := ⟨h1, h2, h3, h4⟩
    rw [if_pos q]
    by_cases c0 : c = 0
    · rw [if_pos c0, if_neg (fun d0 => h5 ⟨c0, d0⟩)]
    · rw [if_neg c0]
  · intro h
    by_cases h4 : (-999 ≤ a ∧ a ≤ 999) ∧ (-999 ≤ b ∧ b ≤ 999) ∧ (-999 ≤ c ∧ c ≤ 999) ∧ (-999 ≤ d ∧ d ≤ 999)
    · have h5 : c = 0 ∧ d = 0 := Classical.byContradiction (fun q => h ⟨h4.1, h4.2.1, h4.2.2.1, h4.2.2.2, q⟩)
      rw [if_pos h5.1, if_pos h5.2]
    · rw [if_neg h4]
      split
      · split <;> rfl
      · rfl
theorem b_small {a b c d : Int32} : (smal a b c d → z_X12_areSmall a b c d = some 1) ∧ (¬ smal a b c d → z_X12_areSmall a b c d = some 0) := by
  unfold z_X12_areSmall
  rw [show (-999 : Int64) = (-999 : Int32).toInt64 from rfl, show (999 : Int64) = (999 : Int32).toInt64 from rfl, b_isIn, b1_N, b_isIn, b1_N, b_isIn, b1_N, b_isIn, b1_N]
  constructor
  · rintro ⟨h1, h2, h3, h4, h5⟩
    rw [if_pos h1, if_neg one0, if_pos h2, if_neg one0, if_pos h3, if_neg one0, if_pos h4, if_neg one0]
    by_cases c0 : c = 0
    · rw [if_pos c0, if_neg (fun d0 => h5 ⟨c0, d0⟩)]
    · rw [if_neg c0]
  · intro h
    by_cases h1 : -999 ≤ a ∧ a ≤ 999
    · rw [if_pos h1, if_neg one0]
      by_cases h2 : -999 ≤ b ∧ b ≤ 999
      · rw [if_pos h2, if_neg one0]
        by_cases h3 : -999 ≤ c ∧ c ≤ 999
        · rw [if_pos h3, if_neg one0]
          by_cases h4 : -999 ≤ d ∧ d ≤ 999
          · rw [if_pos h4, if_neg one0]
            have h5 : c = 0 ∧ d = 0 := Classical.byContradiction (fun q => h ⟨h1, h2, h3, h4, q⟩)
            rw [if_pos h5.1, if_pos h5.2]
          · rw [if_neg h4, if_pos rfl]
        · rw [if_neg h3, if_pos rfl]
      · rw [if_neg h2, if_pos rfl]
    · rw [if_neg h1, if_pos rfl]
/-- a lesser row -/
theorem b_less {r : Nat} (hr : r < 10) (x : Int32) : ((∃ i : Nat, i < r ∧ x = nI i) → z_X12_isIn x.toInt64 0 (Int32.toInt64 (nI r - 1)) = some 1) ∧ ((¬ ∃ i : Nat, i < r ∧ x = nI i) → z_X12_isIn x.toInt64 0 (Int32.toInt64 (nI r - 1)) = some 0) := by
  rw [show (0 : Int64) = (0 : Int32).toInt64 from rfl, b_isIn]
  have key : (0 ≤ x ∧ x ≤ nI r - 1) ↔ ∃ i : Nat, i < r ∧ x = nI i := by
    by_cases h0 : r = 0
    · subst h0
      constructor
      · rintro ⟨a, q⟩
        have h1 := Int32.le_iff_toInt_le.mp a
        have h2 := Int32.le_iff_toInt_le.mp q
        have h3 : (0 : Int32).toInt = 0 := rfl
        have h4 : (nI 0 - 1).toInt = -1 := rfl
        omega
      · rintro ⟨i, hi, -⟩; omega
    · rw [show nI r - 1 = nI (r - 1) from nI_subn (b := 1) (by omega)]
      constructor
      · rintro ⟨a, q⟩
        obtain ⟨j, hj, e⟩ := nI_of (i32_nlt.mpr a)
        rw [e, nI_leI hj (by omega)] at q
        exact ⟨j, by omega, e⟩
      · rintro ⟨i, hi, rfl⟩
        exact ⟨nI_pos' (by omega), nI_le (by omega) (by omega)⟩
  exact ⟨fun h => by rw [if_pos (key.mpr h)], fun h => by rw [if_neg (fun q => h (key.mp q))]⟩
theorem op_single {h h2 : fh_H} (i : Inv h h2) (x1 x2 x3 x4 x5 x6 : Int32) : opz (z_X11_single SA h 0 x1 x2 x3 x4 x5 x6) (z_X12_single TB h2 0 x1 x2 x3 x4 x5 x6) := by
  obtain ⟨I, J, R, I', J', n, P, t, b, fp, s, c, rfl, rfl, ok, hA, hB⟩ := i.cases
  have no : z_X11_single SA (I, J, R) 0 x1 x2 x3 x4 x5 x6 = some (0, (I, J, R)) → z_X12_single TB (I', J', rB) 0 x1 x2 x3 x4 x5 x6 = some (0, (fh_up I' 0 3 0, J', rB)) → opz (z_X11_single SA (I, J, R) 0 x1 x2 x3 x4 x5 x6) (z_X12_single TB (I', J', rB) 0 x1 x2 x3 x4 x5 x6) := fun e1 e2 => ⟨0, _, _, e1, e2, Inv.b3 ok hA hB 0⟩
  by_cases hx : ∃ r : Nat, r < 10 ∧ x1 = nI r
  · obtain ⟨r, hr, rfl⟩ := hx
    have eB : z_X12_single TB (I', J', rB) 0 (nI r) x2 x3 x4 x5 x6 = fh_b1 (z_X12_isIn (Int32.toInt64 x2) (0 : Int64) (Int32.toInt64 (nI r - (1 : Int32)))) (fun r5 => if r5 = 0 then (some ((0 : Int32), (fh_up I' 0 3 0, J', rB))) else (fh_b1 (z_X12_areSmall x3 x4 x5 x6) (fun r8 => if r8 = 0 then (some ((0 : Int32), (fh_up I' 0 3 0, J', rB))) else (fh_b1 (z_X12_become TB (fh_up I' 0 3 0, J', rB) 0 (nI r) (3 : Int32) x3 x4 x5 x6) (fun h11 => fh_b1 (z_X12_put TB h11 0 (nI r) (5 : Int32) x2) (fun h13 => fh_b1 (z_X12_layAll TB h13 0) (fun h15 => some ((1 : Int32), h15)))))))) := by
      unfold z_X12_single
      rw [let_N, sI_N, b_isRow hr, b1_N, if_neg one0]
    by_cases hx2 : ∃ i : Nat, i < r ∧ x2 = nI i
    · rw [(b_less hr x2).1 hx2, b1_N, if_neg one0] at eB
      obtain ⟨i, hi, rfl⟩ := hx2
      have eA : z_X11_single SA (I, J, R) 0 (nI r) (nI i) x3 x4 x5 x6 = fh_b1 (z_X11_fitsSingle x3 x4 x5 x6) (fun r8 => if r8 = 0 then (some ((0 : Int32), (I, J, R))) else (fh_b2 (z_X11_act SA (I, J, R) 0 (58 + 6 * r)) (fun r10 h11 => fh_b1 r10 (fun j13 => fh_ck (fh_kq SA j13 3) (fh_b1 (z_X3_become SA h11 j13 3 (nI i) (nI i) x3 x4 x5 x6) (fun h15 => some ((1 : Int32), h15))))))) := by
        unfold z_X11_single
        rw [a_find hA.1 hr, b1_N, nn_Ns, a_find hA.1 (show i < 10 by omega), b1_N, nn_Ns, if_neg (nI_ge hi (by omega)), (rwA_k (rwA_r hr)).1, ck_N]
      by_cases hs : smal x3 x4 x5 x6
      · rw [a_fits.1 hs, b1_N, if_neg one0] at eA
        rw [b_small.1 hs, b1_N, if_neg one0] at eB
        have okf : okr (fun j => if j = 5 then nI i else bec 3 x3 x4 x5 x6 j) r := Or.inr (Or.inr (Or.inr (Or.inl ⟨rfl, i, hi, rfl⟩)))
        obtain ⟨I3, R3, e3, iA⟩ := a_chg (J := J) (f := fun j => if j = 5 then nI i else bec 3 x3 x4 x5 x6 j) 3 (nI i) (nI i) x3 x4 x5 x6 hr hB.2.1.2.1 ok hA okf (fun g t g0 g1 g2 g3 g4 g5 g6 => ⟨g0, fun q => absurd q (show ¬ (3 : Int32) = 0 by decide), fun q => absurd q (show ¬ (3 : Int32) = 1 by decide), fun q => absurd q (show ¬ (3 : Int32) = 2 by decide), fun _ => ⟨g1, g2, g3, g4, g5, g6⟩, fun q => absurd q (show ¬ (3 : Int32) = 4 by decide)⟩)
        have hB3 := invB_3 hB 0
        obtain ⟨I1, e1, mid, o1⟩ := b_become (J := J') hr hB3.2.1 hB3.1.1 3 x3 x4 x5 x6
        obtain ⟨I4, J4, e4, iB⟩ := b_fin (J := J') hr ok hB3 okf (midB_put (j0 := 5) (v := nI i) hr (by decide) mid) (fun j hj => by rw [up_a _ _ _ _ (by decide)]; exact o1 j hj)
        rw [e3] at eA
        rw [e1, b1_N, show (5 : Int32) = nI 5 from rfl, b_put hr (by decide), b1_N, e4, b1_N] at eB
        exact ⟨1, _, _, eA, eB, Inv.mk (okP_n ok okf) iA iB⟩
      · rw [a_fits.2 hs, b1_N, if_pos rfl] at eA
        rw [b_small.2 hs, b1_N, if_pos rfl] at eB
        exact no eA eB
    · rw [(b_less hr x2).2 hx2, b1_N, if_pos rfl] at eB
      refine no ?_ eB
      unfold z_X11_single
      rw [a_find hA.1 hr, b1_N, nn_Ns]
      by_cases h2 : ∃ i : Nat, i < 10 ∧ x2 = nI i
      · obtain ⟨i, hi, rfl⟩ := h2
        rw [a_find hA.1 hi, b1_N, nn_Ns, if_pos (nI_le (Nat.not_lt.mp (fun q => hx2 ⟨i, q, rfl⟩)) (by omega))]
      · rw [a_find_no hA.1 h2, b1_N, nn_Nn]
  · refine no ?_ ?_
    · unfold z_X11_single
      rw [a_find_no hA.1 hx, b1_N, nn_Nn]
    · unfold z_X12_single
      rw [let_N, sI_N, b_isRow_no hx, b1_N, if_pos rfl]
theorem op_join {h h2 : fh_H} (i : Inv h h2) (x1 x2 x3 x4 : Int32) : opz (z_X11_join SA h 0 x1 x2 x3 x4) (z_X12_join TB h2 0 x1 x2 x3 x4) := by
  obtain ⟨I, J, R, I', J', n, P, t, b, fp, s, c, rfl, rfl, ok, hA, hB⟩ := i.cases
  have no : z_X11_join SA (I, J, R) 0 x1 x2 x3 x4 = some (0, (I, J, R)) → z_X12_join TB (I', J', rB) 0 x1 x2 x3 x4 = some (0, (fh_up I' 0 3 0, J', rB)) → opz (z_X11_join SA (I, J, R) 0 x1 x2 x3 x4) (z_X12_join TB (I', J', rB) 0 x1 x2 x3 x4) := fun e1 e2 => ⟨0, _, _, e1, e2, Inv.b3 ok hA hB 0⟩
  by_cases hx : ∃ r : Nat, r < 10 ∧ x1 = nI r
  · obtain ⟨r, hr, rfl⟩ := hx
    have eB : z_X12_join TB (I', J', rB) 0 (nI r) x2 x3 x4 = (if (if 0 ≤ x2 ∧ x2 ≤ 3 then (1 : Int32) else 0) = 0 then some (0, (fh_up I' 0 3 0, J', rB)) else fh_b1 (z_X12_isIn (Int32.toInt64 x3) (0 : Int64) (Int32.toInt64 (nI r - (1 : Int32)))) (fun r8 => if r8 = 0 then (some ((0 : Int32), (fh_up I' 0 3 0, J', rB))) else (fh_b1 (z_X12_isIn (Int32.toInt64 x4) (0 : Int64) (Int32.toInt64 (nI r - (1 : Int32)))) (fun r11 => if r11 = 0 then (some ((0 : Int32), (fh_up I' 0 3 0, J', rB))) else (fh_b1 (z_X12_become TB (fh_up I' 0 3 0, J', rB) 0 (nI r) (4 : Int32) x2 (0 : Int32) (0 : Int32) (0 : Int32)) (fun h14 => fh_b1 (z_X12_put TB h14 0 (nI r) (5 : Int32) x3) (fun h16 => fh_b1 (z_X12_put TB h16 0 (nI r) (6 : Int32) x4) (fun h18 => fh_b1 (z_X12_layAll TB h18 0) (fun h20 => some ((1 : Int32), h20)))))))))) := by
      unfold z_X12_join
      rw [let_N, sI_N, b_isRow hr, b1_N, if_neg one0, show z_X12_isIn (Int32.toInt64 x2) (0 : Int64) (3 : Int64) = some (if 0 ≤ x2 ∧ x2 ≤ 3 then 1 else 0) from b_isIn x2 0 3, b1_N]
    have eA : ∀ i j : Nat, i < 10 → j < 10 → z_X11_join SA (I, J, R) 0 (nI r) x2 (nI i) (nI j) = (if x2 < 0 then (some ((0 : Int32), (I, J, R))) else (if (3 : Int32) < x2 then (some ((0 : Int32), (I, J, R))) else (if nI r ≤ nI i then (some ((0 : Int32), (I, J, R))) else (if nI j < nI r then (fh_b2 (z_X11_act SA (I, J, R) 0 (58 + 6 * r)) (fun r15 h16 => fh_b1 r15 (fun j18 => fh_ck (fh_kq SA j18 3) (fh_b1 (z_X3_become SA h16 j18 (4 : Int32) (nI i) (nI j) x2 (0 : Int32) (0 : Int32) (0 : Int32)) (fun h20 => some ((1 : Int32), h20)))))) else (some ((0 : Int32), (I, J, R))))))) := fun i j hi hj => by
      unfold z_X11_join
      rw [a_find hA.1 hr, b1_N, nn_Ns, a_find hA.1 hi, b1_N, nn_Ns, a_find hA.1 hj, b1_N, nn_Ns, (rwA_k (rwA_r hr)).1, ck_N]
    have bad : (∀ i j : Nat, i < 10 → j < 10 → x3 = nI i → x4 = nI j → z_X11_join SA (I, J, R) 0 (nI r) x2 (nI i) (nI j) = some (0, (I, J, R))) → z_X11_join SA (I, J, R) 0 (nI r) x2 x3 x4 = some (0, (I, J, R)) := fun q => by
      by_cases h3 : ∃ i : Nat, i < 10 ∧ x3 = nI i
      · by_cases h4 : ∃ i : Nat, i < 10 ∧ x4 = nI i
        · obtain ⟨i, hi, e3⟩ := h3
          obtain ⟨j, hj, e4⟩ := h4
          have := q i j hi hj e3 e4
          rw [e3, e4]; exact this
        · obtain ⟨i, hi, rfl⟩ := h3
          unfold z_X11_join
          rw [a_find hA.1 hr, b1_N, nn_Ns, a_find hA.1 hi, b1_N, nn_Ns, a_find_no hA.1 h4, b1_N, nn_Nn]
      · unfold z_X11_join
        rw [a_find hA.1 hr, b1_N, nn_Ns, a_find_no hA.1 h3, b1_N, nn_Nn]
    by_cases hh : 0 ≤ x2 ∧ x2 ≤ 3
    · rw [if_pos hh, if_neg one0] at eB
      by_cases hx3 : ∃ i : Nat, i < r ∧ x3 = nI i
      · rw [(b_less hr x3).1 hx3, b1_N, if_neg one0] at eB
        by_cases hx4 : ∃ i : Nat, i < r ∧ x4 = nI i
        · rw [(b_less hr x4).1 hx4, b1_N, if_neg one0] at eB
          obtain ⟨i, hi, rfl⟩ := hx3
          obtain ⟨j, hj, rfl⟩ := hx4
          have eA := eA i j (by omega) (by omega)
          rw [if_neg (i32_nlt.mpr hh.1), if_neg (i32_nlt.mpr hh.2), if_neg (nI_ge hi (by omega)), if_pos (nI_lt hj (by omega))] at eA
          have hhow : x2 = 0 ∨ x2 = 1 ∨ x2 = 2 ∨ x2 = 3 := by
            obtain ⟨q, hq, e⟩ := nI_of2 (M := 3) (n := 3) rfl (i32_nlt.mpr hh.1) hh.2
            rw [e]
            rcases (by omega : q = 0 ∨ q = 1 ∨ q = 2 ∨ q = 3) with rfl | rfl | rfl | rfl
            · exact Or.inl rfl
            · exact Or.inr (Or.inl rfl)
            · exact Or.inr (Or.inr (Or.inl rfl))
            · exact Or.inr (Or.inr (Or.inr rfl))
          have okf : okr (fun q => if q = 6 then nI j else (fun q => if q = 5 then nI i else bec 4 x2 0 0 0 q) q) r := Or.inr (Or.inr (Or.inr (Or.inr ⟨rfl, ⟨i, hi, rfl⟩, ⟨j, hj, rfl⟩, hhow⟩)))
          obtain ⟨I3, R3, e3, iA⟩ := a_chg (J := J) (f := fun q => if q = 6 then nI j else (fun q => if q = 5 then nI i else bec 4 x2 0 0 0 q) q) 4 (nI i) (nI j) x2 0 0 0 hr hB.2.1.2.1 ok hA okf (fun g t g0 g1 g2 g3 g4 g5 g6 => ⟨g0, fun q => absurd q (show ¬ (4 : Int32) = 0 by decide), fun q => absurd q (show ¬ (4 : Int32) = 1 by decide), fun q => absurd q (show ¬ (4 : Int32) = 2 by decide), fun q => absurd q (show ¬ (4 : Int32) = 3 by decide), fun _ => ⟨g1, g2, g3⟩⟩)
          have hB3 := invB_3 hB 0
          obtain ⟨I1, e1, mid, o1⟩ := b_become (J := J') hr hB3.2.1 hB3.1.1 4 x2 0 0 0
          obtain ⟨I4, J4, e4, iB⟩ := b_fin (J := J') hr ok hB3 okf (midB_put (j0 := 6) (v := nI j) hr (by decide) (midB_put (j0 := 5) (v := nI i) hr (by decide) mid)) (fun q hq => by rw [up_a _ _ _ _ (by decide), up_a _ _ _ _ (by decide)]; exact o1 q hq)
          rw [e3] at eA
          rw [e1, b1_N, show (5 : Int32) = nI 5 from rfl, b_put hr (by decide), b1_N, show (6 : Int32) = nI 6 from rfl, b_put hr (by decide), b1_N, e4, b1_N] at eB
          exact ⟨1, _, _, eA, eB, Inv.mk (okP_n ok okf) iA iB⟩
        · rw [(b_less hr x4).2 hx4, b1_N, if_pos rfl] at eB
          refine no (bad (fun i j hi hj e3 e4 => ?_)) eB
          rw [eA i j hi hj, if_neg (show ¬ nI j < nI r from nI_nlt (Nat.not_lt.mp (fun q => hx4 ⟨j, q, e4⟩)) (by omega))]
          split
          · rfl
          · split
            · rfl
            · split <;> rfl
      · rw [(b_less hr x3).2 hx3, b1_N, if_pos rfl] at eB
        refine no (bad (fun i j hi hj e3 e4 => ?_)) eB
        rw [eA i j hi hj, if_pos (show nI r ≤ nI i from nI_le (Nat.not_lt.mp (fun q => hx3 ⟨i, q, e3⟩)) (by omega))]
        split
        · rfl
        · split <;> rfl
    · rw [if_neg hh, if_pos rfl] at eB
      refine no (bad (fun i j hi hj e3 e4 => ?_)) eB
      rw [eA i j hi hj]
      by_cases h0 : x2 < 0
      · rw [if_pos h0]
      · rw [if_neg h0, if_pos (i32_nle.mp (fun q => hh ⟨i32_nlt.mp h0, q⟩))]
  · refine no ?_ ?_
    · unfold z_X11_join
      rw [a_find_no hA.1 hx, b1_N, nn_Nn]
    · unfold z_X12_join
      rw [let_N, sI_N, b_isRow_no hx, b1_N, if_pos rfl]
theorem op_undo {h h2 : fh_H} (i : Inv h h2) : opz (z_X11_undo SA h 0) (z_X12_undo TB h2 0) := by
  obtain ⟨I, J, R, I', J', n, P, t, b, fp, s, c, rfl, rfl, ok, hA, hB⟩ := i.cases
  by_cases hn : n = 0
  · subst hn
    obtain ⟨μ, o, -, -, h3, -⟩ := hA.2.2.2.1
    exact ⟨-1, _, _, a_undo0 hA.1 h3, b_undo0 hB.2.1.1, Inv.b3 ok hA hB 0⟩
  · obtain ⟨I2, R2, e, iA⟩ := a_undo (J := J) hB.2.1.2.1 (by omega) (ok.1 (n - 1) (by omega)) hA
    obtain ⟨I3, J3, e3, iB⟩ := b_undo (J := J') (by omega) ok hB
    exact ⟨nI (n - 1), _, _, e, e3, Inv.mk ⟨fun k hk => ok.1 k (by omega), ok.2⟩ iA iB⟩
theorem op_fault {h h2 : fh_H} (i : Inv h h2) {KK : fh_H → fh_H → Option Unit} (hK : ∀ h h2, Inv h h2 → KK h h2 = some ()) : fh_b1 (z_X11_fault SA h 0) (fun r1 => fh_b2 (z_X12_fault TB h2 0) (fun r3 h5 => if r1 = r3 then (KK h h5) else none)) = some () := by
  obtain ⟨I, J, R, I', J', n, P, t, b, fp, s, c, rfl, rfl, ok, hA, hB⟩ := i.cases
  unfold z_X11_fault z_X12_fault
  have c0 : fh_up I' 0 3 0 0 43 = fp := by rw [up_k _ _ _ _ (by decide)]; exact hB.2.2.1.2.2
  have c1 : I 48 8 = fp := hA.2.2.2.2.1.2.2
  simp only [rA_0_6 hA.1, b1_N, kA_48, ck_N, let_N, sI_N, b2_N, c0, c1, if_true]
  exact hK _ _ (Inv.b3 ok hA hB 0)
