/-! the law's loop -/
def z_law_loop (S S2 : fh_S) (x mo o : Nat) (xs : Nat → Int32) (L : Nat) : Nat → fh_H → fh_H → Int32 → Option Unit
  | 0, _, _, _ => none
  | n + 1, h, h2, i => if Int32.ofNat L - 7 < i then some () else fh_ck (fh_in i L) (fh_let (xs (Int32.toNatClampNeg i) &&& 31) (fun v =>
    if v = 0 then z_law_0 S S2 x mo o xs L (fun h h2 => fh_let (i + 7) (fun i1 => z_law_loop S S2 x mo o xs L n h h2 i1)) h h2 i else if v = 1 then z_law_1 S S2 x mo o xs L (fun h h2 => fh_let (i + 7) (fun i1 => z_law_loop S S2 x mo o xs L n h h2 i1)) h h2 i else if v = 2 then z_law_2 S S2 x mo o xs L (fun h h2 => fh_let (i + 7) (fun i1 => z_law_loop S S2 x mo o xs L n h h2 i1)) h h2 i else if v = 3 then z_law_3 S S2 x mo o xs L (fun h h2 => fh_let (i + 7) (fun i1 => z_law_loop S S2 x mo o xs L n h h2 i1)) h h2 i else if v = 4 then z_law_4 S S2 x mo o xs L (fun h h2 => fh_let (i + 7) (fun i1 => z_law_loop S S2 x mo o xs L n h h2 i1)) h h2 i else if v = 5 then z_law_5 S S2 x mo o xs L (fun h h2 => fh_let (i + 7) (fun i1 => z_law_loop S S2 x mo o xs L n h h2 i1)) h h2 i else if v = 6 then z_law_6 S S2 x mo o xs L (fun h h2 => fh_let (i + 7) (fun i1 => z_law_loop S S2 x mo o xs L n h h2 i1)) h h2 i else if v = 7 then z_law_7 S S2 x mo o xs L (fun h h2 => fh_let (i + 7) (fun i1 => z_law_loop S S2 x mo o xs L n h h2 i1)) h h2 i else if v = 8 then z_law_8 S S2 x mo o xs L (fun h h2 => fh_let (i + 7) (fun i1 => z_law_loop S S2 x mo o xs L n h h2 i1)) h h2 i else if v = 9 then z_law_9 S S2 x mo o xs L (fun h h2 => fh_let (i + 7) (fun i1 => z_law_loop S S2 x mo o xs L n h h2 i1)) h h2 i else if v = 10 then z_law_10 S S2 x mo o xs L (fun h h2 => fh_let (i + 7) (fun i1 => z_law_loop S S2 x mo o xs L n h h2 i1)) h h2 i else if v = 11 then z_law_11 S S2 x mo o xs L (fun h h2 => fh_let (i + 7) (fun i1 => z_law_loop S S2 x mo o xs L n h h2 i1)) h h2 i else if v = 12 then z_law_12 S S2 x mo o xs L (fun h h2 => fh_let (i + 7) (fun i1 => z_law_loop S S2 x mo o xs L n h h2 i1)) h h2 i else if v = 13 then z_law_13 S S2 x mo o xs L (fun h h2 => fh_let (i + 7) (fun i1 => z_law_loop S S2 x mo o xs L n h h2 i1)) h h2 i else if v = 14 then z_law_14 S S2 x mo o xs L (fun h h2 => fh_let (i + 7) (fun i1 => z_law_loop S S2 x mo o xs L n h h2 i1)) h h2 i else if v = 15 then z_law_15 S S2 x mo o xs L (fun h h2 => fh_let (i + 7) (fun i1 => z_law_loop S S2 x mo o xs L n h h2 i1)) h h2 i else if v = 16 then z_law_16 S S2 x mo o xs L (fun h h2 => fh_let (i + 7) (fun i1 => z_law_loop S S2 x mo o xs L n h h2 i1)) h h2 i else if v = 17 then z_law_17 S S2 x mo o xs L (fun h h2 => fh_let (i + 7) (fun i1 => z_law_loop S S2 x mo o xs L n h h2 i1)) h h2 i else if v = 18 then z_law_18 S S2 x mo o xs L (fun h h2 => fh_let (i + 7) (fun i1 => z_law_loop S S2 x mo o xs L n h h2 i1)) h h2 i else if v = 19 then z_law_19 S S2 x mo o xs L (fun h h2 => fh_let (i + 7) (fun i1 => z_law_loop S S2 x mo o xs L n h h2 i1)) h h2 i else if v = 20 then z_law_20 S S2 x mo o xs L (fun h h2 => fh_let (i + 7) (fun i1 => z_law_loop S S2 x mo o xs L n h h2 i1)) h h2 i else if v = 21 then z_law_21 S S2 x mo o xs L (fun h h2 => fh_let (i + 7) (fun i1 => z_law_loop S S2 x mo o xs L n h h2 i1)) h h2 i else if v = 22 then z_law_22 S S2 x mo o xs L (fun h h2 => fh_let (i + 7) (fun i1 => z_law_loop S S2 x mo o xs L n h h2 i1)) h h2 i else if v = 23 then z_law_23 S S2 x mo o xs L (fun h h2 => fh_let (i + 7) (fun i1 => z_law_loop S S2 x mo o xs L n h h2 i1)) h h2 i else if v = 24 then z_law_24 S S2 x mo o xs L (fun h h2 => fh_let (i + 7) (fun i1 => z_law_loop S S2 x mo o xs L n h h2 i1)) h h2 i else if v = 25 then z_law_25 S S2 x mo o xs L (fun h h2 => fh_let (i + 7) (fun i1 => z_law_loop S S2 x mo o xs L n h h2 i1)) h h2 i else (fun h h2 => fh_let (i + 7) (fun i1 => z_law_loop S S2 x mo o xs L n h h2 i1)) h h2))
set_option maxHeartbeats 4000000 in
set_option maxRecDepth 100000 in
theorem w_law_loop {p : Program} {l : Launch} {e : Env} {s : State} {m : MethodId} {below : List Frame} {meth : Method} {c : Code} {b L : Nat} {xs : Nat → Int32} {z : (Nat → Nat) × (Nat → Nat)} {S S2 : fh_S} {g g2 : fh_G} {x mo o : Nat} {Q : State → Prop} (F : fl_C p l s m c b L xs z S g S2 g2 x mo) (hend : ∀ (H : Heap) (locs : List Loc) (ls : Array Slot) (cells slots : Nat), va_S (fun q => s.heap.size ≤ q) s.heap H locs → cells ≤ 601024 → slots ≤ 7293034 → W p l e room_1 s m #[.ref b] below meth c H locs cells slots Q (F0 m 1928 ls [])) : ∀ (n : Nat) (h h2 : fh_H) (i : Int32) (H : Heap) (locs : List Loc) (cells slots : Nat) (ls : Array Slot), z_law_loop S S2 x mo o xs L n h h2 i = some () → fl_J s S g h S2 g2 h2 H locs → cells + 8 * n ≤ 601024 → slots + 48 * n ≤ 7293034 → lv_has ls 8 [(0, .ref b), (1, .ref (g.2.2 x)), (2, .ref (g2.2.2 mo)), (3, .ref (g.2.2 o)), (4, .int i)] → W p l e room_1 s m #[.ref b] below meth c H locs cells slots Q (F0 m 23 ls []) := by
  obtain ⟨C, C2, EX, EX2, hN, hX, hbl, hlt, kx, km⟩ := id F
  have hx := C.1.1
  have hb := C.1.2.1
  intro n
  induction n with
  | zero => intro h h2 i H locs cells slots ls hsp; cases hsp
  | succ n ih =>
    intro h h2 i H locs cells slots ls hsp J hc hs hl
    rw [z_law_loop] at hsp
    refine lv_iload hx hb dL_law_23 (lv_at hl 4 rfl) ?_
    refine lv_aload_n hx hb dL_law_25 rfl (lv_at hl 0 rfl) ?_
    refine va_slen (A := fun q => s.heap.size ≤ q) (xs := xs) hx hb hX hbl (by omega) J.2.2.2.2.2 dL_law_26 ?_
    refine lv_bipush (v := 7) hx hb dL_law_27 (by decide) ?_
    refine lv_isub hx hb dL_law_29 ?_
    refine lv_icmp_gt (tgt := 1928) hx hb dL_law_30 (by decide) (fun c1 => ?_) (fun c1 => ?_)
    · exact hend _ _ _ _ _ J.2.2.2.2.2 (by omega) (by omega)
    rw [if_neg c1] at hsp
    obtain ⟨hi1, hsp⟩ := fr_ck hsp
    refine lv_aload_n hx hb dL_law_33 rfl (lv_at hl 0 rfl) ?_
    refine lv_iload hx hb dL_law_34 (lv_at hl 4 rfl) ?_
    refine va_sld (A := fun q => s.heap.size ≤ q) (xs := xs) hx hb hX hbl (by omega) J.2.2.2.2.2 (fh_in_vp hi1) dL_law_36 ?_
    refine lv_bipush (v := 31) hx hb dL_law_37 (by decide) ?_
    refine lv_iand hx hb dL_law_39 ?_
    refine lv_topi (fun v ev => ?_)
    have hsp := fr_let ev hsp
    have hinc : ∀ (h h2 : fh_H) (H : Heap) (locs : List Loc) (ls : Array Slot), (fun h h2 => fh_let (i + 7) (fun i1 => z_law_loop S S2 x mo o xs L n h h2 i1)) h h2 = some () → fl_J s S g h S2 g2 h2 H locs → lv_has ls 8 [(0, .ref b), (1, .ref (g.2.2 x)), (2, .ref (g2.2.2 mo)), (3, .ref (g.2.2 o)), (4, .int i)] → W p l e room_1 s m #[.ref b] below meth c H locs (cells + 8) (slots + 48) Q (F0 m 1922 ls []) := by
      intro h h2 H locs ls hsp J hl
      obtain ⟨i1, ei1⟩ : ∃ z, z = i + 7 := ⟨_, rfl⟩
      have hsp := fr_let ei1 hsp
      refine lv_iinc (v := i1) (lv' := [(4, .int i1), (0, .ref b), (1, .ref (g.2.2 x)), (2, .ref (g2.2.2 mo)), (3, .ref (g.2.2 o))]) hx hb dL_law_1922 hl (k := 4) rfl (by rw [ei1]; rfl) (by decide) rfl (fun ls hl => ?_)
      refine lv_goto (tgt := 23) hx hb dL_law_1925 (by decide) ?_
      exact ih h h2 i1 _ _ _ _ _ hsp J (by omega) (by omega) (lv_sub hl [1, 2, 3, 4, 0] rfl)
    by_cases c0 : v = 0
    · rw [if_pos c0] at hsp
      refine lv_tableIn (off := 120) (tgt := 160) hx hb dL_law_40 (by rw [c0]; decide) (by rw [c0]; decide) (by rw [c0]; decide) (by decide) ?_
      exact w_law_0 F J (by omega) (by omega) hl hsp hinc
    rw [if_neg c0] at hsp
    by_cases c1 : v = 1
    · rw [if_pos c1] at hsp
      refine lv_tableIn (off := 193) (tgt := 233) hx hb dL_law_40 (by rw [c1]; decide) (by rw [c1]; decide) (by rw [c1]; decide) (by decide) ?_
      exact w_law_1 F J (by omega) (by omega) hl hsp hinc
    rw [if_neg c1] at hsp
    by_cases c2 : v = 2
    · rw [if_pos c2] at hsp
      refine lv_tableIn (off := 261) (tgt := 301) hx hb dL_law_40 (by rw [c2]; decide) (by rw [c2]; decide) (by rw [c2]; decide) (by decide) ?_
      exact w_law_2 F J (by omega) (by omega) hl hsp hinc
    rw [if_neg c2] at hsp
    by_cases c3 : v = 3
    · rw [if_pos c3] at hsp
      refine lv_tableIn (off := 329) (tgt := 369) hx hb dL_law_40 (by rw [c3]; decide) (by rw [c3]; decide) (by rw [c3]; decide) (by decide) ?_
      exact w_law_3 F J (by omega) (by omega) hl hsp hinc
    rw [if_neg c3] at hsp
    by_cases c4 : v = 4
    · rw [if_pos c4] at hsp
      refine lv_tableIn (off := 342) (tgt := 382) hx hb dL_law_40 (by rw [c4]; decide) (by rw [c4]; decide) (by rw [c4]; decide) (by decide) ?_
      exact w_law_4 F J (by omega) (by omega) hl hsp hinc
    rw [if_neg c4] at hsp
    by_cases c5 : v = 5
    · rw [if_pos c5] at hsp
      refine lv_tableIn (off := 391) (tgt := 431) hx hb dL_law_40 (by rw [c5]; decide) (by rw [c5]; decide) (by rw [c5]; decide) (by decide) ?_
      exact w_law_5 F J (by omega) (by omega) hl hsp hinc
    rw [if_neg c5] at hsp
    by_cases c6 : v = 6
    · rw [if_pos c6] at hsp
      refine lv_tableIn (off := 452) (tgt := 492) hx hb dL_law_40 (by rw [c6]; decide) (by rw [c6]; decide) (by rw [c6]; decide) (by decide) ?_
      exact w_law_6 F J (by omega) (by omega) hl hsp hinc
    rw [if_neg c6] at hsp
    by_cases c7 : v = 7
    · rw [if_pos c7] at hsp
      refine lv_tableIn (off := 539) (tgt := 579) hx hb dL_law_40 (by rw [c7]; decide) (by rw [c7]; decide) (by rw [c7]; decide) (by decide) ?_
      exact w_law_7 F J (by omega) (by omega) hl hsp hinc
    rw [if_neg c7] at hsp
    by_cases c8 : v = 8
    · rw [if_pos c8] at hsp
      refine lv_tableIn (off := 600) (tgt := 640) hx hb dL_law_40 (by rw [c8]; decide) (by rw [c8]; decide) (by rw [c8]; decide) (by decide) ?_
      exact w_law_8 F J (by omega) (by omega) hl hsp hinc
    rw [if_neg c8] at hsp
    by_cases c9 : v = 9
    · rw [if_pos c9] at hsp
      refine lv_tableIn (off := 613) (tgt := 653) hx hb dL_law_40 (by rw [c9]; decide) (by rw [c9]; decide) (by rw [c9]; decide) (by decide) ?_
      exact w_law_9 F J (by omega) (by omega) hl hsp hinc
    rw [if_neg c9] at hsp
    by_cases c10 : v = 10
    · rw [if_pos c10] at hsp
      refine lv_tableIn (off := 669) (tgt := 709) hx hb dL_law_40 (by rw [c10]; decide) (by rw [c10]; decide) (by rw [c10]; decide) (by decide) ?_
      exact w_law_10 F J (by omega) (by omega) hl hsp hinc
    rw [if_neg c10] at hsp
    by_cases c11 : v = 11
    · rw [if_pos c11] at hsp
      refine lv_tableIn (off := 737) (tgt := 777) hx hb dL_law_40 (by rw [c11]; decide) (by rw [c11]; decide) (by rw [c11]; decide) (by decide) ?_
      exact w_law_11 F J (by omega) (by omega) hl hsp hinc
    rw [if_neg c11] at hsp
    by_cases c12 : v = 12
    · rw [if_pos c12] at hsp
      refine lv_tableIn (off := 805) (tgt := 845) hx hb dL_law_40 (by rw [c12]; decide) (by rw [c12]; decide) (by rw [c12]; decide) (by decide) ?_
      exact w_law_12 F J (by omega) (by omega) hl hsp hinc
    rw [if_neg c12] at hsp
    by_cases c13 : v = 13
    · rw [if_pos c13] at hsp
      refine lv_tableIn (off := 901) (tgt := 941) hx hb dL_law_40 (by rw [c13]; decide) (by rw [c13]; decide) (by rw [c13]; decide) (by decide) ?_
      exact w_law_13 F J (by omega) (by omega) hl hsp hinc
    rw [if_neg c13] at hsp
    by_cases c14 : v = 14
    · rw [if_pos c14] at hsp
      refine lv_tableIn (off := 996) (tgt := 1036) hx hb dL_law_40 (by rw [c14]; decide) (by rw [c14]; decide) (by rw [c14]; decide) (by decide) ?_
      exact w_law_14 F J (by omega) (by omega) hl hsp hinc
    rw [if_neg c14] at hsp
    by_cases c15 : v = 15
    · rw [if_pos c15] at hsp
      refine lv_tableIn (off := 1064) (tgt := 1104) hx hb dL_law_40 (by rw [c15]; decide) (by rw [c15]; decide) (by rw [c15]; decide) (by decide) ?_
      exact w_law_15 F J (by omega) (by omega) hl hsp hinc
    rw [if_neg c15] at hsp
    by_cases c16 : v = 16
    · rw [if_pos c16] at hsp
      refine lv_tableIn (off := 1171) (tgt := 1211) hx hb dL_law_40 (by rw [c16]; decide) (by rw [c16]; decide) (by rw [c16]; decide) (by decide) ?_
      exact w_law_16 F J (by omega) (by omega) hl hsp hinc
    rw [if_neg c16] at hsp
    by_cases c17 : v = 17
    · rw [if_pos c17] at hsp
      refine lv_tableIn (off := 1239) (tgt := 1279) hx hb dL_law_40 (by rw [c17]; decide) (by rw [c17]; decide) (by rw [c17]; decide) (by decide) ?_
      exact w_law_17 F J (by omega) (by omega) hl hsp hinc
    rw [if_neg c17] at hsp
    by_cases c18 : v = 18
    · rw [if_pos c18] at hsp
      refine lv_tableIn (off := 1307) (tgt := 1347) hx hb dL_law_40 (by rw [c18]; decide) (by rw [c18]; decide) (by rw [c18]; decide) (by decide) ?_
      exact w_law_18 F J (by omega) (by omega) hl hsp hinc
    rw [if_neg c18] at hsp
    by_cases c19 : v = 19
    · rw [if_pos c19] at hsp
      refine lv_tableIn (off := 1375) (tgt := 1415) hx hb dL_law_40 (by rw [c19]; decide) (by rw [c19]; decide) (by rw [c19]; decide) (by decide) ?_
      exact w_law_19 F J (by omega) (by omega) hl hsp hinc
    rw [if_neg c19] at hsp
    by_cases c20 : v = 20
    · rw [if_pos c20] at hsp
      refine lv_tableIn (off := 1455) (tgt := 1495) hx hb dL_law_40 (by rw [c20]; decide) (by rw [c20]; decide) (by rw [c20]; decide) (by decide) ?_
      exact w_law_20 F J (by omega) (by omega) hl hsp hinc
    rw [if_neg c20] at hsp
    by_cases c21 : v = 21
    · rw [if_pos c21] at hsp
      refine lv_tableIn (off := 1523) (tgt := 1563) hx hb dL_law_40 (by rw [c21]; decide) (by rw [c21]; decide) (by rw [c21]; decide) (by decide) ?_
      exact w_law_21 F J (by omega) (by omega) hl hsp hinc
    rw [if_neg c21] at hsp
    by_cases c22 : v = 22
    · rw [if_pos c22] at hsp
      refine lv_tableIn (off := 1641) (tgt := 1681) hx hb dL_law_40 (by rw [c22]; decide) (by rw [c22]; decide) (by rw [c22]; decide) (by decide) ?_
      exact w_law_22 F J (by omega) (by omega) hl hsp hinc
    rw [if_neg c22] at hsp
    by_cases c23 : v = 23
    · rw [if_pos c23] at hsp
      refine lv_tableIn (off := 1709) (tgt := 1749) hx hb dL_law_40 (by rw [c23]; decide) (by rw [c23]; decide) (by rw [c23]; decide) (by decide) ?_
      exact w_law_23 F J (by omega) (by omega) hl hsp hinc
    rw [if_neg c23] at hsp
    by_cases c24 : v = 24
    · rw [if_pos c24] at hsp
      refine lv_tableIn (off := 1789) (tgt := 1829) hx hb dL_law_40 (by rw [c24]; decide) (by rw [c24]; decide) (by rw [c24]; decide) (by decide) ?_
      exact w_law_24 F J (by omega) (by omega) hl hsp hinc
    rw [if_neg c24] at hsp
    by_cases c25 : v = 25
    · rw [if_pos c25] at hsp
      refine lv_tableIn (off := 1857) (tgt := 1897) hx hb dL_law_40 (by rw [c25]; decide) (by rw [c25]; decide) (by rw [c25]; decide) (by decide) ?_
      exact w_law_25 F J (by omega) (by omega) hl hsp hinc
    rw [if_neg c25] at hsp
    refine lv_tableOut (tgt := 1922) hx hb dL_law_40 (fr_tout 0 26 (fun j hj => by match j, hj with | 0, _ => exact c0 | 1, _ => exact c1 | 2, _ => exact c2 | 3, _ => exact c3 | 4, _ => exact c4 | 5, _ => exact c5 | 6, _ => exact c6 | 7, _ => exact c7 | 8, _ => exact c8 | 9, _ => exact c9 | 10, _ => exact c10 | 11, _ => exact c11 | 12, _ => exact c12 | 13, _ => exact c13 | 14, _ => exact c14 | 15, _ => exact c15 | 16, _ => exact c16 | 17, _ => exact c17 | 18, _ => exact c18 | 19, _ => exact c19 | 20, _ => exact c20 | 21, _ => exact c21 | 22, _ => exact c22 | 23, _ => exact c23 | 24, _ => exact c24 | 25, _ => exact c25 | (k + 26), hk => omega) (by decide) (by decide)) (by decide) ?_
    refine W.widen (k := cells + 8) (n := slots + 48) (by omega) (by omega) ?_
    exact hinc h h2 _ _ _ hsp J hl
