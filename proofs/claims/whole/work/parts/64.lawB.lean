def z_law_13 (S S2 : fh_S) (x mo o : Nat) (xs : Nat → Int32) (L : Nat) (KK : fh_H → fh_H → Option Unit) (h h2 : fh_H) (i : Int32) : Option Unit :=
    fh_ck (fh_in (i + (1 : Int32)) L) (fh_ck (fh_in (i + (2 : Int32)) L) (fh_ck (fh_in (i + (3 : Int32)) L) (fh_let (if (xs (Int32.toNatClampNeg (i + (3 : Int32)))) = 0 then (0 : Int32) else 1) (fun w4 => fh_b2 (z_L_convergent S h x (xs (Int32.toNatClampNeg (i + (1 : Int32)))) (xs (Int32.toNatClampNeg (i + (2 : Int32)))) w4 o) (fun r5 h6 => fh_let (if (xs (Int32.toNatClampNeg (i + (3 : Int32)))) = 0 then (0 : Int32) else 1) (fun w8 => fh_b2 (z_X12_convergent S2 h2 mo (xs (Int32.toNatClampNeg (i + (1 : Int32)))) (xs (Int32.toNatClampNeg (i + (2 : Int32)))) w8) (fun r9 h11 => fh_b1 (z_X12_thrown S2 h11 mo) (fun r12 => if r12 = r5 then (if r5 = 0 then (fh_ck (fh_kq S o 14) (fh_ck (fh_in 0 (S.2.2 o)) (if (h6.2.1 o (Int32.toNatClampNeg 0)) = r9 then (KK h6 h11) else none))) else (KK h6 h11)) else none))))))))
set_option maxHeartbeats 4000000 in
set_option maxRecDepth 100000 in
theorem w_law_13 {p : Program} {l : Launch} {e : Env} {s : State} {m : MethodId} {below : List Frame} {meth : Method} {c : Code} {b L : Nat} {xs : Nat → Int32} {z : (Nat → Nat) × (Nat → Nat)} {S S2 : fh_S} {g g2 : fh_G} {x mo o : Nat} {Q : State → Prop} {h h2 : fh_H} {i : Int32} {H : Heap} {locs : List Loc} {cells slots : Nat} {ls : Array Slot} {KK : fh_H → fh_H → Option Unit} (F : fl_C p l s m c b L xs z S g S2 g2 x mo) (J : fl_J s S g h S2 g2 h2 H locs) (hc : cells + 8 ≤ 601024) (hs : slots + 48 ≤ 7293034) (hl : lv_has ls 8 [(0, .ref b), (1, .ref (g.2.2 x)), (2, .ref (g2.2.2 mo)), (3, .ref (g.2.2 o)), (4, .int i)]) (hsp : z_law_13 S S2 x mo o xs L KK h h2 i = some ())
    (hK : ∀ (h h2 : fh_H) (H : Heap) (locs : List Loc) (ls : Array Slot), KK h h2 = some () → fl_J s S g h S2 g2 h2 H locs → lv_has ls 8 [(0, .ref b), (1, .ref (g.2.2 x)), (2, .ref (g2.2.2 mo)), (3, .ref (g.2.2 o)), (4, .int i)] → W p l e room_1 s m #[.ref b] below meth c H locs (cells + 8) (slots + 48) Q (F0 m 1922 ls [])) : W p l e room_1 s m #[.ref b] below meth c H locs cells slots Q (F0 m 941 ls []) := by
  unfold z_law_13 at hsp
  obtain ⟨C, C2, EX, EX2, hN, hX, hbl, hlt, kx, km⟩ := F
  have hx := C.1.1
  have hb := C.1.2.1
  refine lv_aload_n hx hb dL_law_941 rfl (lv_at hl 1 rfl) ?_
  refine lv_aload_n hx hb dL_law_942 rfl (lv_at hl 0 rfl) ?_
  refine lv_iload hx hb dL_law_943 (lv_at hl 4 rfl) ?_
  refine lv_iconst (v := 1) hx hb dL_law_945 (by decide) ?_
  refine lv_iadd hx hb dL_law_946 ?_
  obtain ⟨hi1, hsp⟩ := fr_ck hsp
  refine va_sld (A := fun q => s.heap.size ≤ q) (xs := xs) hx hb hX hbl (by omega) J.2.2.2.2.2 (fh_in_vp hi1) dL_law_947 ?_
  refine lv_aload_n hx hb dL_law_948 rfl (lv_at hl 0 rfl) ?_
  refine lv_iload hx hb dL_law_949 (lv_at hl 4 rfl) ?_
  refine lv_iconst (v := 2) hx hb dL_law_951 (by decide) ?_
  refine lv_iadd hx hb dL_law_952 ?_
  obtain ⟨hi2, hsp⟩ := fr_ck hsp
  refine va_sld (A := fun q => s.heap.size ≤ q) (xs := xs) hx hb hX hbl (by omega) J.2.2.2.2.2 (fh_in_vp hi2) dL_law_953 ?_
  refine lv_aload_n hx hb dL_law_954 rfl (lv_at hl 0 rfl) ?_
  refine lv_iload hx hb dL_law_955 (lv_at hl 4 rfl) ?_
  refine lv_iconst (v := 3) hx hb dL_law_957 (by decide) ?_
  refine lv_iadd hx hb dL_law_958 ?_
  obtain ⟨hi3, hsp⟩ := fr_ck hsp
  refine va_sld (A := fun q => s.heap.size ≤ q) (xs := xs) hx hb hX hbl (by omega) J.2.2.2.2.2 (fh_in_vp hi3) dL_law_959 ?_
  obtain ⟨w4, ew4⟩ : ∃ z, z = (if (xs (Int32.toNatClampNeg (i + (3 : Int32)))) = 0 then (0 : Int32) else 1) := ⟨_, rfl⟩
  have hsp := fr_let ew4 hsp
  have hjoin : W p l e room_1 s m #[.ref b] below meth c H locs cells slots Q (F0 m 968 ls [.int w4, .int (xs (Int32.toNatClampNeg (i + (2 : Int32)))), .int (xs (Int32.toNatClampNeg (i + (1 : Int32)))), .ref (g.2.2 x)]) := ?_
  · refine lv_if_eq (tgt := 967) hx hb dL_law_960 (by decide) (fun c1 => ?_) (fun c1 => ?_)
    · rw [if_pos c1] at ew4; refine lv_iconst (v := 0) hx hb dL_law_967 (by decide) ?_; rw [ew4] at hjoin; exact hjoin
    · rw [if_neg c1] at ew4; refine lv_iconst (v := 1) hx hb dL_law_963 (by decide) ?_; refine lv_goto (tgt := 968) hx hb dL_law_964 (by decide) ?_; rw [ew4] at hjoin; exact hjoin
  refine lv_aload_n hx hb dL_law_968 rfl (lv_at hl 3 rfl) ?_
  obtain ⟨r5, h6, E7, hsp⟩ := fr_b2 hsp
  refine fl_cW (rest := []) C EX hN J (k_L_convergent C.2.2 hlt kx E7) Y_L_convergent YS_L_convergent Lk_RL_137 rfl hl.1 ⟨Nat.le_of_ble_eq_true rfl, Nat.le_of_ble_eq_true rfl⟩ rfl (Nat.le_of_ble_eq_true rfl) ⟨by show _ ≤ 601024; omega, by show _ ≤ 7293034; omega⟩ dL_law_969 (fun H locs J => ?_)
  refine lv_istore (lv' := [(5, .int r5), (0, .ref b), (1, .ref (g.2.2 x)), (2, .ref (g2.2.2 mo)), (3, .ref (g.2.2 o)), (4, .int i)]) hx hb dL_law_972 hl (by decide) rfl (fun ls hl => ?_)
  refine lv_aload_n hx hb dL_law_974 rfl (lv_at hl 3 rfl) ?_
  refine lv_aload_n hx hb dL_law_975 rfl (lv_at hl 1 rfl) ?_
  refine lv_iload hx hb dL_law_976 (lv_at hl 5 rfl) ?_
  refine lv_iconst (v := 1) hx hb dL_law_978 (by decide) ?_
  refine lv_iadd hx hb dL_law_979 ?_
  refine va_sld (A := fun q => s.heap.size ≤ q) (xs := xs) hx hb hX hbl (by omega) J.2.2.2.2.2 (fh_in_vp hi1) dL_law_980 ?_
  refine lv_aload_n hx hb dL_law_981 rfl (lv_at hl 1 rfl) ?_
  refine lv_iload hx hb dL_law_982 (lv_at hl 5 rfl) ?_
  refine lv_iconst (v := 2) hx hb dL_law_984 (by decide) ?_
  refine lv_iadd hx hb dL_law_985 ?_
  refine va_sld (A := fun q => s.heap.size ≤ q) (xs := xs) hx hb hX hbl (by omega) J.2.2.2.2.2 (fh_in_vp hi2) dL_law_986 ?_
  refine lv_aload_n hx hb dL_law_987 rfl (lv_at hl 1 rfl) ?_
  refine lv_iload hx hb dL_law_988 (lv_at hl 5 rfl) ?_
  refine lv_iconst (v := 3) hx hb dL_law_990 (by decide) ?_
  refine lv_iadd hx hb dL_law_991 ?_
  refine va_sld (A := fun q => s.heap.size ≤ q) (xs := xs) hx hb hX hbl (by omega) J.2.2.2.2.2 (fh_in_vp hi3) dL_law_992 ?_
  obtain ⟨w8, ew8⟩ : ∃ z, z = (if (xs (Int32.toNatClampNeg (i + (3 : Int32)))) = 0 then (0 : Int32) else 1) := ⟨_, rfl⟩
  have hsp := fr_let ew8 hsp
  have hjoin : W p l e room_1 s m #[.ref b] below meth c H locs (cells + 2) (slots + 6 * 2) Q (F0 m 1001 ls [.int w8, .int (xs (Int32.toNatClampNeg (i + (2 : Int32)))), .int (xs (Int32.toNatClampNeg (i + (1 : Int32)))), .ref (g2.2.2 mo)]) := ?_
  · refine lv_if_eq (tgt := 1000) hx hb dL_law_993 (by decide) (fun c1 => ?_) (fun c1 => ?_)
    · rw [if_pos c1] at ew8; refine lv_iconst (v := 0) hx hb dL_law_1000 (by decide) ?_; rw [ew8] at hjoin; exact hjoin
    · rw [if_neg c1] at ew8; refine lv_iconst (v := 1) hx hb dL_law_996 (by decide) ?_; refine lv_goto (tgt := 1001) hx hb dL_law_997 (by decide) ?_; rw [ew8] at hjoin; exact hjoin
  obtain ⟨r9, h11, E10, hsp⟩ := fr_b2 hsp
  refine fl_cV (rest := []) (st1 := [.long r9]) C2 J.swap (k_X12_convergent C2.2.2 km E10) Y_X12_convergent YV_X12_convergent Lk_RL_139 km ⟨_, _, rfl, by decide⟩ rfl hl.1 ⟨Nat.le_of_ble_eq_true rfl, Nat.le_of_ble_eq_true rfl⟩ rfl (Nat.le_of_ble_eq_true rfl) ⟨by show _ ≤ 601024; omega, by show _ ≤ 7293034; omega⟩ rfl dL_law_1001 (fun H locs J => ?_)
  have J := J.swap
  refine lv_lstore (lv' := [(6, .long r9), (5, .int r5), (0, .ref b), (1, .ref (g.2.2 x)), (2, .ref (g2.2.2 mo)), (3, .ref (g.2.2 o)), (4, .int i)]) hx hb dL_law_1004 hl (by decide) rfl (fun ls hl => ?_)
  refine lv_aload_n hx hb dL_law_1006 rfl (lv_at hl 4 rfl) ?_
  obtain ⟨r12, E13, hsp⟩ := fr_b1 hsp
  refine fl_cV (rest := []) (st1 := [.int r12]) C2 J.swap (k_X12_thrown C2.2.2 km E13) Y_X12_thrown YV_X12_thrown Lk_RL_89 km ⟨_, _, rfl, by decide⟩ rfl hl.1 ⟨Nat.le_of_ble_eq_true rfl, Nat.le_of_ble_eq_true rfl⟩ rfl (Nat.le_of_ble_eq_true rfl) ⟨by show _ ≤ 601024; omega, by show _ ≤ 7293034; omega⟩ rfl dL_law_1007 (fun H locs J => ?_)
  have J := J.swap
  refine lv_iload hx hb dL_law_1010 (lv_at hl 1 rfl) ?_
  refine lv_icmp_eq (tgt := 1017) hx hb dL_law_1012 (by decide) (fun c1 => ?_) (fun c1 => by rw [if_neg c1] at hsp; cases hsp)
  rw [if_pos c1] at hsp
  refine lv_iload hx hb dL_law_1017 (lv_at hl 1 rfl) ?_
  refine lv_if_ne (tgt := 1033) hx hb dL_law_1019 (by decide) (fun c1 => ?_) (fun c1 => ?_)
  · rw [if_neg c1] at hsp
    refine lv_goto (tgt := 1922) hx hb dL_law_1033 (by decide) ?_
    refine W.widen (k := cells + 8) (n := slots + 48) (by omega) (by omega) ?_
    exact hK h6 h11 _ _ _ hsp J (lv_sub hl [2, 3, 4, 5, 6] rfl)
  · rw [if_pos c1] at hsp
    refine lv_aload_n hx hb dL_law_1022 rfl (lv_at hl 5 rfl) ?_
    refine lv_iconst (v := 0) hx hb dL_law_1023 (by decide) ?_
    obtain ⟨hk14, hsp⟩ := fr_ck hsp
    obtain ⟨hi15, hsp⟩ := fr_ck hsp
    refine fr_lald C J.R hk14 hi15 dL_law_1024 ?_
    refine lv_lload hx hb dL_law_1025 (lv_at hl 0 rfl) ?_
    refine fr_lc_eq (tgt := 1033) hx hb dL_law_1027 dL_law_1028 (by decide) (fun c1 => ?_) (fun c1 => by rw [if_neg c1] at hsp; cases hsp)
    rw [if_pos c1] at hsp
    refine lv_goto (tgt := 1922) hx hb dL_law_1033 (by decide) ?_
    refine W.widen (k := cells + 8) (n := slots + 48) (by omega) (by omega) ?_
    exact hK h6 h11 _ _ _ hsp J (lv_sub hl [2, 3, 4, 5, 6] rfl)

def z_law_14 (S S2 : fh_S) (x mo o : Nat) (xs : Nat → Int32) (L : Nat) (KK : fh_H → fh_H → Option Unit) (h h2 : fh_H) (i : Int32) : Option Unit :=
    fh_ck (fh_in (i + (1 : Int32)) L) (fh_ck (fh_in (i + (2 : Int32)) L) (fh_b2 (z_L_nearest S h x (xs (Int32.toNatClampNeg (i + (1 : Int32)))) (xs (Int32.toNatClampNeg (i + (2 : Int32)))) o) (fun r3 h4 => fh_b2 (z_X12_nearest S2 h2 mo (xs (Int32.toNatClampNeg (i + (1 : Int32)))) (xs (Int32.toNatClampNeg (i + (2 : Int32))))) (fun r6 h8 => fh_b1 (z_X12_thrown S2 h8 mo) (fun r9 => if r9 = r3 then (if r3 = 0 then (fh_ck (fh_kq S o 14) (fh_ck (fh_in 0 (S.2.2 o)) (if (h4.2.1 o (Int32.toNatClampNeg 0)) = (Int32.toInt64 r6) then (KK h4 h8) else none))) else (KK h4 h8)) else none)))))
set_option maxHeartbeats 4000000 in
set_option maxRecDepth 100000 in
theorem w_law_14 {p : Program} {l : Launch} {e : Env} {s : State} {m : MethodId} {below : List Frame} {meth : Method} {c : Code} {b L : Nat} {xs : Nat → Int32} {z : (Nat → Nat) × (Nat → Nat)} {S S2 : fh_S} {g g2 : fh_G} {x mo o : Nat} {Q : State → Prop} {h h2 : fh_H} {i : Int32} {H : Heap} {locs : List Loc} {cells slots : Nat} {ls : Array Slot} {KK : fh_H → fh_H → Option Unit} (F : fl_C p l s m c b L xs z S g S2 g2 x mo) (J : fl_J s S g h S2 g2 h2 H locs) (hc : cells + 8 ≤ 601024) (hs : slots + 48 ≤ 7293034) (hl : lv_has ls 8 [(0, .ref b), (1, .ref (g.2.2 x)), (2, .ref (g2.2.2 mo)), (3, .ref (g.2.2 o)), (4, .int i)]) (hsp : z_law_14 S S2 x mo o xs L KK h h2 i = some ())
    (hK : ∀ (h h2 : fh_H) (H : Heap) (locs : List Loc) (ls : Array Slot), KK h h2 = some () → fl_J s S g h S2 g2 h2 H locs → lv_has ls 8 [(0, .ref b), (1, .ref (g.2.2 x)), (2, .ref (g2.2.2 mo)), (3, .ref (g.2.2 o)), (4, .int i)] → W p l e room_1 s m #[.ref b] below meth c H locs (cells + 8) (slots + 48) Q (F0 m 1922 ls [])) : W p l e room_1 s m #[.ref b] below meth c H locs cells slots Q (F0 m 1036 ls []) := by
  unfold z_law_14 at hsp
  obtain ⟨C, C2, EX, EX2, hN, hX, hbl, hlt, kx, km⟩ := F
  have hx := C.1.1
  have hb := C.1.2.1
  refine lv_aload_n hx hb dL_law_1036 rfl (lv_at hl 1 rfl) ?_
  refine lv_aload_n hx hb dL_law_1037 rfl (lv_at hl 0 rfl) ?_
  refine lv_iload hx hb dL_law_1038 (lv_at hl 4 rfl) ?_
  refine lv_iconst (v := 1) hx hb dL_law_1040 (by decide) ?_
  refine lv_iadd hx hb dL_law_1041 ?_
  obtain ⟨hi1, hsp⟩ := fr_ck hsp
  refine va_sld (A := fun q => s.heap.size ≤ q) (xs := xs) hx hb hX hbl (by omega) J.2.2.2.2.2 (fh_in_vp hi1) dL_law_1042 ?_
  refine lv_aload_n hx hb dL_law_1043 rfl (lv_at hl 0 rfl) ?_
  refine lv_iload hx hb dL_law_1044 (lv_at hl 4 rfl) ?_
  refine lv_iconst (v := 2) hx hb dL_law_1046 (by decide) ?_
  refine lv_iadd hx hb dL_law_1047 ?_
  obtain ⟨hi2, hsp⟩ := fr_ck hsp
  refine va_sld (A := fun q => s.heap.size ≤ q) (xs := xs) hx hb hX hbl (by omega) J.2.2.2.2.2 (fh_in_vp hi2) dL_law_1048 ?_
  refine lv_aload_n hx hb dL_law_1049 rfl (lv_at hl 3 rfl) ?_
  obtain ⟨r3, h4, E5, hsp⟩ := fr_b2 hsp
  refine fl_cW (rest := []) C EX hN J (k_L_nearest C.2.2 hlt kx E5) Y_L_nearest YS_L_nearest Lk_RL_140 rfl hl.1 ⟨Nat.le_of_ble_eq_true rfl, Nat.le_of_ble_eq_true rfl⟩ rfl (Nat.le_of_ble_eq_true rfl) ⟨by show _ ≤ 601024; omega, by show _ ≤ 7293034; omega⟩ dL_law_1050 (fun H locs J => ?_)
  refine lv_istore (lv' := [(5, .int r3), (0, .ref b), (1, .ref (g.2.2 x)), (2, .ref (g2.2.2 mo)), (3, .ref (g.2.2 o)), (4, .int i)]) hx hb dL_law_1053 hl (by decide) rfl (fun ls hl => ?_)
  refine lv_aload_n hx hb dL_law_1055 rfl (lv_at hl 3 rfl) ?_
  refine lv_aload_n hx hb dL_law_1056 rfl (lv_at hl 1 rfl) ?_
  refine lv_iload hx hb dL_law_1057 (lv_at hl 5 rfl) ?_
  refine lv_iconst (v := 1) hx hb dL_law_1059 (by decide) ?_
  refine lv_iadd hx hb dL_law_1060 ?_
  refine va_sld (A := fun q => s.heap.size ≤ q) (xs := xs) hx hb hX hbl (by omega) J.2.2.2.2.2 (fh_in_vp hi1) dL_law_1061 ?_
  refine lv_aload_n hx hb dL_law_1062 rfl (lv_at hl 1 rfl) ?_
  refine lv_iload hx hb dL_law_1063 (lv_at hl 5 rfl) ?_
  refine lv_iconst (v := 2) hx hb dL_law_1065 (by decide) ?_
  refine lv_iadd hx hb dL_law_1066 ?_
  refine va_sld (A := fun q => s.heap.size ≤ q) (xs := xs) hx hb hX hbl (by omega) J.2.2.2.2.2 (fh_in_vp hi2) dL_law_1067 ?_
  obtain ⟨r6, h8, E7, hsp⟩ := fr_b2 hsp
  refine fl_cV (rest := []) (st1 := [.int r6]) C2 J.swap (k_X12_nearest C2.2.2 km E7) Y_X12_nearest YV_X12_nearest Lk_RL_142 km ⟨_, _, rfl, by decide⟩ rfl hl.1 ⟨Nat.le_of_ble_eq_true rfl, Nat.le_of_ble_eq_true rfl⟩ rfl (Nat.le_of_ble_eq_true rfl) ⟨by show _ ≤ 601024; omega, by show _ ≤ 7293034; omega⟩ rfl dL_law_1068 (fun H locs J => ?_)
  have J := J.swap
  refine lv_istore (lv' := [(6, .int r6), (5, .int r3), (0, .ref b), (1, .ref (g.2.2 x)), (2, .ref (g2.2.2 mo)), (3, .ref (g.2.2 o)), (4, .int i)]) hx hb dL_law_1071 hl (by decide) rfl (fun ls hl => ?_)
  refine lv_aload_n hx hb dL_law_1073 rfl (lv_at hl 4 rfl) ?_
  obtain ⟨r9, E10, hsp⟩ := fr_b1 hsp
  refine fl_cV (rest := []) (st1 := [.int r9]) C2 J.swap (k_X12_thrown C2.2.2 km E10) Y_X12_thrown YV_X12_thrown Lk_RL_89 km ⟨_, _, rfl, by decide⟩ rfl hl.1 ⟨Nat.le_of_ble_eq_true rfl, Nat.le_of_ble_eq_true rfl⟩ rfl (Nat.le_of_ble_eq_true rfl) ⟨by show _ ≤ 601024; omega, by show _ ≤ 7293034; omega⟩ rfl dL_law_1074 (fun H locs J => ?_)
  have J := J.swap
  refine lv_iload hx hb dL_law_1077 (lv_at hl 1 rfl) ?_
  refine lv_icmp_eq (tgt := 1084) hx hb dL_law_1079 (by decide) (fun c1 => ?_) (fun c1 => by rw [if_neg c1] at hsp; cases hsp)
  rw [if_pos c1] at hsp
  refine lv_iload hx hb dL_law_1084 (lv_at hl 1 rfl) ?_
  refine lv_if_ne (tgt := 1101) hx hb dL_law_1086 (by decide) (fun c1 => ?_) (fun c1 => ?_)
  · rw [if_neg c1] at hsp
    refine lv_goto (tgt := 1922) hx hb dL_law_1101 (by decide) ?_
    refine W.widen (k := cells + 8) (n := slots + 48) (by omega) (by omega) ?_
    exact hK h4 h8 _ _ _ hsp J (lv_sub hl [2, 3, 4, 5, 6] rfl)
  · rw [if_pos c1] at hsp
    refine lv_aload_n hx hb dL_law_1089 rfl (lv_at hl 5 rfl) ?_
    refine lv_iconst (v := 0) hx hb dL_law_1090 (by decide) ?_
    obtain ⟨hk11, hsp⟩ := fr_ck hsp
    obtain ⟨hi12, hsp⟩ := fr_ck hsp
    refine fr_lald C J.R hk11 hi12 dL_law_1091 ?_
    refine lv_iload hx hb dL_law_1092 (lv_at hl 0 rfl) ?_
    refine lv_i2l hx hb dL_law_1094 rfl ?_
    refine fr_lc_eq (tgt := 1101) hx hb dL_law_1095 dL_law_1096 (by decide) (fun c1 => ?_) (fun c1 => by rw [if_neg c1] at hsp; cases hsp)
    rw [if_pos c1] at hsp
    refine lv_goto (tgt := 1922) hx hb dL_law_1101 (by decide) ?_
    refine W.widen (k := cells + 8) (n := slots + 48) (by omega) (by omega) ?_
    exact hK h4 h8 _ _ _ hsp J (lv_sub hl [2, 3, 4, 5, 6] rfl)

def z_law_15 (S S2 : fh_S) (x mo o : Nat) (xs : Nat → Int32) (L : Nat) (KK : fh_H → fh_H → Option Unit) (h h2 : fh_H) (i : Int32) : Option Unit :=
    fh_ck (fh_in (i + (1 : Int32)) L) (fh_ck (fh_in (i + (2 : Int32)) L) (fh_ck (fh_in (i + (3 : Int32)) L) (fh_ck (fh_in (i + (4 : Int32)) L) (fh_let (if (xs (Int32.toNatClampNeg (i + (4 : Int32)))) = 0 then (0 : Int32) else 1) (fun w5 => fh_b2 (z_L_mediant S h x (xs (Int32.toNatClampNeg (i + (1 : Int32)))) (xs (Int32.toNatClampNeg (i + (2 : Int32)))) (xs (Int32.toNatClampNeg (i + (3 : Int32)))) w5 o) (fun r6 h7 => fh_let (if (xs (Int32.toNatClampNeg (i + (4 : Int32)))) = 0 then (0 : Int32) else 1) (fun w9 => fh_b2 (z_X12_mediant S2 h2 mo (xs (Int32.toNatClampNeg (i + (1 : Int32)))) (xs (Int32.toNatClampNeg (i + (2 : Int32)))) (xs (Int32.toNatClampNeg (i + (3 : Int32)))) w9) (fun r10 h12 => fh_b1 (z_X12_thrown S2 h12 mo) (fun r13 => if r13 = r6 then (if r6 = 0 then (fh_ck (fh_kq S o 14) (fh_ck (fh_in 0 (S.2.2 o)) (if (h7.2.1 o (Int32.toNatClampNeg 0)) = r10 then (KK h7 h12) else none))) else (KK h7 h12)) else none)))))))))
set_option maxHeartbeats 4000000 in
set_option maxRecDepth 100000 in
theorem w_law_15 {p : Program} {l : Launch} {e : Env} {s : State} {m : MethodId} {below : List Frame} {meth : Method} {c : Code} {b L : Nat} {xs : Nat → Int32} {z : (Nat → Nat) × (Nat → Nat)} {S S2 : fh_S} {g g2 : fh_G} {x mo o : Nat} {Q : State → Prop} {h h2 : fh_H} {i : Int32} {H : Heap} {locs : List Loc} {cells slots : Nat} {ls : Array Slot} {KK : fh_H → fh_H → Option Unit} (F : fl_C p l s m c b L xs z S g S2 g2 x mo) (J : fl_J s S g h S2 g2 h2 H locs) (hc : cells + 8 ≤ 601024) (hs : slots + 48 ≤ 7293034) (hl : lv_has ls 8 [(0, .ref b), (1, .ref (g.2.2 x)), (2, .ref (g2.2.2 mo)), (3, .ref (g.2.2 o)), (4, .int i)]) (hsp : z_law_15 S S2 x mo o xs L KK h h2 i = some ())
    (hK : ∀ (h h2 : fh_H) (H : Heap) (locs : List Loc) (ls : Array Slot), KK h h2 = some () → fl_J s S g h S2 g2 h2 H locs → lv_has ls 8 [(0, .ref b), (1, .ref (g.2.2 x)), (2, .ref (g2.2.2 mo)), (3, .ref (g.2.2 o)), (4, .int i)] → W p l e room_1 s m #[.ref b] below meth c H locs (cells + 8) (slots + 48) Q (F0 m 1922 ls [])) : W p l e room_1 s m #[.ref b] below meth c H locs cells slots Q (F0 m 1104 ls []) := by
  unfold z_law_15 at hsp
  obtain ⟨C, C2, EX, EX2, hN, hX, hbl, hlt, kx, km⟩ := F
  have hx := C.1.1
  have hb := C.1.2.1
  refine lv_aload_n hx hb dL_law_1104 rfl (lv_at hl 1 rfl) ?_
  refine lv_aload_n hx hb dL_law_1105 rfl (lv_at hl 0 rfl) ?_
  refine lv_iload hx hb dL_law_1106 (lv_at hl 4 rfl) ?_
  refine lv_iconst (v := 1) hx hb dL_law_1108 (by decide) ?_
  refine lv_iadd hx hb dL_law_1109 ?_
  obtain ⟨hi1, hsp⟩ := fr_ck hsp
  refine va_sld (A := fun q => s.heap.size ≤ q) (xs := xs) hx hb hX hbl (by omega) J.2.2.2.2.2 (fh_in_vp hi1) dL_law_1110 ?_
  refine lv_aload_n hx hb dL_law_1111 rfl (lv_at hl 0 rfl) ?_
  refine lv_iload hx hb dL_law_1112 (lv_at hl 4 rfl) ?_
  refine lv_iconst (v := 2) hx hb dL_law_1114 (by decide) ?_
  refine lv_iadd hx hb dL_law_1115 ?_
  obtain ⟨hi2, hsp⟩ := fr_ck hsp
  refine va_sld (A := fun q => s.heap.size ≤ q) (xs := xs) hx hb hX hbl (by omega) J.2.2.2.2.2 (fh_in_vp hi2) dL_law_1116 ?_
  refine lv_aload_n hx hb dL_law_1117 rfl (lv_at hl 0 rfl) ?_
  refine lv_iload hx hb dL_law_1118 (lv_at hl 4 rfl) ?_
  refine lv_iconst (v := 3) hx hb dL_law_1120 (by decide) ?_
  refine lv_iadd hx hb dL_law_1121 ?_
  obtain ⟨hi3, hsp⟩ := fr_ck hsp
  refine va_sld (A := fun q => s.heap.size ≤ q) (xs := xs) hx hb hX hbl (by omega) J.2.2.2.2.2 (fh_in_vp hi3) dL_law_1122 ?_
  refine lv_aload_n hx hb dL_law_1123 rfl (lv_at hl 0 rfl) ?_
  refine lv_iload hx hb dL_law_1124 (lv_at hl 4 rfl) ?_
  refine lv_iconst (v := 4) hx hb dL_law_1126 (by decide) ?_
  refine lv_iadd hx hb dL_law_1127 ?_
  obtain ⟨hi4, hsp⟩ := fr_ck hsp
  refine va_sld (A := fun q => s.heap.size ≤ q) (xs := xs) hx hb hX hbl (by omega) J.2.2.2.2.2 (fh_in_vp hi4) dL_law_1128 ?_
  obtain ⟨w5, ew5⟩ : ∃ z, z = (if (xs (Int32.toNatClampNeg (i + (4 : Int32)))) = 0 then (0 : Int32) else 1) := ⟨_, rfl⟩
  have hsp := fr_let ew5 hsp
  have hjoin : W p l e room_1 s m #[.ref b] below meth c H locs cells slots Q (F0 m 1137 ls [.int w5, .int (xs (Int32.toNatClampNeg (i + (3 : Int32)))), .int (xs (Int32.toNatClampNeg (i + (2 : Int32)))), .int (xs (Int32.toNatClampNeg (i + (1 : Int32)))), .ref (g.2.2 x)]) := ?_
  · refine lv_if_eq (tgt := 1136) hx hb dL_law_1129 (by decide) (fun c1 => ?_) (fun c1 => ?_)
    · rw [if_pos c1] at ew5; refine lv_iconst (v := 0) hx hb dL_law_1136 (by decide) ?_; rw [ew5] at hjoin; exact hjoin
    · rw [if_neg c1] at ew5; refine lv_iconst (v := 1) hx hb dL_law_1132 (by decide) ?_; refine lv_goto (tgt := 1137) hx hb dL_law_1133 (by decide) ?_; rw [ew5] at hjoin; exact hjoin
  refine lv_aload_n hx hb dL_law_1137 rfl (lv_at hl 3 rfl) ?_
  obtain ⟨r6, h7, E8, hsp⟩ := fr_b2 hsp
  refine fl_cW (rest := []) C EX hN J (k_L_mediant C.2.2 hlt kx E8) Y_L_mediant YS_L_mediant Lk_RL_143 rfl hl.1 ⟨Nat.le_of_ble_eq_true rfl, Nat.le_of_ble_eq_true rfl⟩ rfl (Nat.le_of_ble_eq_true rfl) ⟨by show _ ≤ 601024; omega, by show _ ≤ 7293034; omega⟩ dL_law_1138 (fun H locs J => ?_)
  refine lv_istore (lv' := [(5, .int r6), (0, .ref b), (1, .ref (g.2.2 x)), (2, .ref (g2.2.2 mo)), (3, .ref (g.2.2 o)), (4, .int i)]) hx hb dL_law_1141 hl (by decide) rfl (fun ls hl => ?_)
  refine lv_aload_n hx hb dL_law_1143 rfl (lv_at hl 3 rfl) ?_
  refine lv_aload_n hx hb dL_law_1144 rfl (lv_at hl 1 rfl) ?_
  refine lv_iload hx hb dL_law_1145 (lv_at hl 5 rfl) ?_
  refine lv_iconst (v := 1) hx hb dL_law_1147 (by decide) ?_
  refine lv_iadd hx hb dL_law_1148 ?_
  refine va_sld (A := fun q => s.heap.size ≤ q) (xs := xs) hx hb hX hbl (by omega) J.2.2.2.2.2 (fh_in_vp hi1) dL_law_1149 ?_
  refine lv_aload_n hx hb dL_law_1150 rfl (lv_at hl 1 rfl) ?_
  refine lv_iload hx hb dL_law_1151 (lv_at hl 5 rfl) ?_
  refine lv_iconst (v := 2) hx hb dL_law_1153 (by decide) ?_
  refine lv_iadd hx hb dL_law_1154 ?_
  refine va_sld (A := fun q => s.heap.size ≤ q) (xs := xs) hx hb hX hbl (by omega) J.2.2.2.2.2 (fh_in_vp hi2) dL_law_1155 ?_
  refine lv_aload_n hx hb dL_law_1156 rfl (lv_at hl 1 rfl) ?_
  refine lv_iload hx hb dL_law_1157 (lv_at hl 5 rfl) ?_
  refine lv_iconst (v := 3) hx hb dL_law_1159 (by decide) ?_
  refine lv_iadd hx hb dL_law_1160 ?_
  refine va_sld (A := fun q => s.heap.size ≤ q) (xs := xs) hx hb hX hbl (by omega) J.2.2.2.2.2 (fh_in_vp hi3) dL_law_1161 ?_
  refine lv_aload_n hx hb dL_law_1162 rfl (lv_at hl 1 rfl) ?_
  refine lv_iload hx hb dL_law_1163 (lv_at hl 5 rfl) ?_
  refine lv_iconst (v := 4) hx hb dL_law_1165 (by decide) ?_
  refine lv_iadd hx hb dL_law_1166 ?_
  refine va_sld (A := fun q => s.heap.size ≤ q) (xs := xs) hx hb hX hbl (by omega) J.2.2.2.2.2 (fh_in_vp hi4) dL_law_1167 ?_
  obtain ⟨w9, ew9⟩ : ∃ z, z = (if (xs (Int32.toNatClampNeg (i + (4 : Int32)))) = 0 then (0 : Int32) else 1) := ⟨_, rfl⟩
  have hsp := fr_let ew9 hsp
  have hjoin : W p l e room_1 s m #[.ref b] below meth c H locs (cells + 2) (slots + 6 * 2) Q (F0 m 1176 ls [.int w9, .int (xs (Int32.toNatClampNeg (i + (3 : Int32)))), .int (xs (Int32.toNatClampNeg (i + (2 : Int32)))), .int (xs (Int32.toNatClampNeg (i + (1 : Int32)))), .ref (g2.2.2 mo)]) := ?_
  · refine lv_if_eq (tgt := 1175) hx hb dL_law_1168 (by decide) (fun c1 => ?_) (fun c1 => ?_)
    · rw [if_pos c1] at ew9; refine lv_iconst (v := 0) hx hb dL_law_1175 (by decide) ?_; rw [ew9] at hjoin; exact hjoin
    · rw [if_neg c1] at ew9; refine lv_iconst (v := 1) hx hb dL_law_1171 (by decide) ?_; refine lv_goto (tgt := 1176) hx hb dL_law_1172 (by decide) ?_; rw [ew9] at hjoin; exact hjoin
  obtain ⟨r10, h12, E11, hsp⟩ := fr_b2 hsp
  refine fl_cV (rest := []) (st1 := [.long r10]) C2 J.swap (k_X12_mediant C2.2.2 km E11) Y_X12_mediant YV_X12_mediant Lk_RL_146 km ⟨_, _, rfl, by decide⟩ rfl hl.1 ⟨Nat.le_of_ble_eq_true rfl, Nat.le_of_ble_eq_true rfl⟩ rfl (Nat.le_of_ble_eq_true rfl) ⟨by show _ ≤ 601024; omega, by show _ ≤ 7293034; omega⟩ rfl dL_law_1176 (fun H locs J => ?_)
  have J := J.swap
  refine lv_lstore (lv' := [(6, .long r10), (5, .int r6), (0, .ref b), (1, .ref (g.2.2 x)), (2, .ref (g2.2.2 mo)), (3, .ref (g.2.2 o)), (4, .int i)]) hx hb dL_law_1179 hl (by decide) rfl (fun ls hl => ?_)
  refine lv_aload_n hx hb dL_law_1181 rfl (lv_at hl 4 rfl) ?_
  obtain ⟨r13, E14, hsp⟩ := fr_b1 hsp
  refine fl_cV (rest := []) (st1 := [.int r13]) C2 J.swap (k_X12_thrown C2.2.2 km E14) Y_X12_thrown YV_X12_thrown Lk_RL_89 km ⟨_, _, rfl, by decide⟩ rfl hl.1 ⟨Nat.le_of_ble_eq_true rfl, Nat.le_of_ble_eq_true rfl⟩ rfl (Nat.le_of_ble_eq_true rfl) ⟨by show _ ≤ 601024; omega, by show _ ≤ 7293034; omega⟩ rfl dL_law_1182 (fun H locs J => ?_)
  have J := J.swap
  refine lv_iload hx hb dL_law_1185 (lv_at hl 1 rfl) ?_
  refine lv_icmp_eq (tgt := 1192) hx hb dL_law_1187 (by decide) (fun c1 => ?_) (fun c1 => by rw [if_neg c1] at hsp; cases hsp)
  rw [if_pos c1] at hsp
  refine lv_iload hx hb dL_law_1192 (lv_at hl 1 rfl) ?_
  refine lv_if_ne (tgt := 1208) hx hb dL_law_1194 (by decide) (fun c1 => ?_) (fun c1 => ?_)
  · rw [if_neg c1] at hsp
    refine lv_goto (tgt := 1922) hx hb dL_law_1208 (by decide) ?_
    refine W.widen (k := cells + 8) (n := slots + 48) (by omega) (by omega) ?_
    exact hK h7 h12 _ _ _ hsp J (lv_sub hl [2, 3, 4, 5, 6] rfl)
  · rw [if_pos c1] at hsp
    refine lv_aload_n hx hb dL_law_1197 rfl (lv_at hl 5 rfl) ?_
    refine lv_iconst (v := 0) hx hb dL_law_1198 (by decide) ?_
    obtain ⟨hk15, hsp⟩ := fr_ck hsp
    obtain ⟨hi16, hsp⟩ := fr_ck hsp
    refine fr_lald C J.R hk15 hi16 dL_law_1199 ?_
    refine lv_lload hx hb dL_law_1200 (lv_at hl 0 rfl) ?_
    refine fr_lc_eq (tgt := 1208) hx hb dL_law_1202 dL_law_1203 (by decide) (fun c1 => ?_) (fun c1 => by rw [if_neg c1] at hsp; cases hsp)
    rw [if_pos c1] at hsp
    refine lv_goto (tgt := 1922) hx hb dL_law_1208 (by decide) ?_
    refine W.widen (k := cells + 8) (n := slots + 48) (by omega) (by omega) ?_
    exact hK h7 h12 _ _ _ hsp J (lv_sub hl [2, 3, 4, 5, 6] rfl)

def z_law_16 (S S2 : fh_S) (x mo o : Nat) (xs : Nat → Int32) (L : Nat) (KK : fh_H → fh_H → Option Unit) (h h2 : fh_H) (i : Int32) : Option Unit :=
    fh_ck (fh_in (i + (1 : Int32)) L) (fh_ck (fh_in (i + (2 : Int32)) L) (fh_b2 (z_L_compare S h x (xs (Int32.toNatClampNeg (i + (1 : Int32)))) (xs (Int32.toNatClampNeg (i + (2 : Int32)))) o) (fun r3 h4 => fh_b2 (z_X12_compare S2 h2 mo (xs (Int32.toNatClampNeg (i + (1 : Int32)))) (xs (Int32.toNatClampNeg (i + (2 : Int32))))) (fun r6 h8 => fh_b1 (z_X12_thrown S2 h8 mo) (fun r9 => if r9 = r3 then (if r3 = 0 then (fh_ck (fh_kq S o 14) (fh_ck (fh_in 0 (S.2.2 o)) (if (h4.2.1 o (Int32.toNatClampNeg 0)) = (Int32.toInt64 r6) then (KK h4 h8) else none))) else (KK h4 h8)) else none)))))
set_option maxHeartbeats 4000000 in
set_option maxRecDepth 100000 in
theorem w_law_16 {p : Program} {l : Launch} {e : Env} {s : State} {m : MethodId} {below : List Frame} {meth : Method} {c : Code} {b L : Nat} {xs : Nat → Int32} {z : (Nat → Nat) × (Nat → Nat)} {S S2 : fh_S} {g g2 : fh_G} {x mo o : Nat} {Q : State → Prop} {h h2 : fh_H} {i : Int32} {H : Heap} {locs : List Loc} {cells slots : Nat} {ls : Array Slot} {KK : fh_H → fh_H → Option Unit} (F : fl_C p l s m c b L xs z S g S2 g2 x mo) (J : fl_J s S g h S2 g2 h2 H locs) (hc : cells + 8 ≤ 601024) (hs : slots + 48 ≤ 7293034) (hl : lv_has ls 8 [(0, .ref b), (1, .ref (g.2.2 x)), (2, .ref (g2.2.2 mo)), (3, .ref (g.2.2 o)), (4, .int i)]) (hsp : z_law_16 S S2 x mo o xs L KK h h2 i = some ())
    (hK : ∀ (h h2 : fh_H) (H : Heap) (locs : List Loc) (ls : Array Slot), KK h h2 = some () → fl_J s S g h S2 g2 h2 H locs → lv_has ls 8 [(0, .ref b), (1, .ref (g.2.2 x)), (2, .ref (g2.2.2 mo)), (3, .ref (g.2.2 o)), (4, .int i)] → W p l e room_1 s m #[.ref b] below meth c H locs (cells + 8) (slots + 48) Q (F0 m 1922 ls [])) : W p l e room_1 s m #[.ref b] below meth c H locs cells slots Q (F0 m 1211 ls []) := by
  unfold z_law_16 at hsp
  obtain ⟨C, C2, EX, EX2, hN, hX, hbl, hlt, kx, km⟩ := F
  have hx := C.1.1
  have hb := C.1.2.1
  refine lv_aload_n hx hb dL_law_1211 rfl (lv_at hl 1 rfl) ?_
  refine lv_aload_n hx hb dL_law_1212 rfl (lv_at hl 0 rfl) ?_
  refine lv_iload hx hb dL_law_1213 (lv_at hl 4 rfl) ?_
  refine lv_iconst (v := 1) hx hb dL_law_1215 (by decide) ?_
  refine lv_iadd hx hb dL_law_1216 ?_
  obtain ⟨hi1, hsp⟩ := fr_ck hsp
  refine va_sld (A := fun q => s.heap.size ≤ q) (xs := xs) hx hb hX hbl (by omega) J.2.2.2.2.2 (fh_in_vp hi1) dL_law_1217 ?_
  refine lv_aload_n hx hb dL_law_1218 rfl (lv_at hl 0 rfl) ?_
  refine lv_iload hx hb dL_law_1219 (lv_at hl 4 rfl) ?_
  refine lv_iconst (v := 2) hx hb dL_law_1221 (by decide) ?_
  refine lv_iadd hx hb dL_law_1222 ?_
  obtain ⟨hi2, hsp⟩ := fr_ck hsp
  refine va_sld (A := fun q => s.heap.size ≤ q) (xs := xs) hx hb hX hbl (by omega) J.2.2.2.2.2 (fh_in_vp hi2) dL_law_1223 ?_
  refine lv_aload_n hx hb dL_law_1224 rfl (lv_at hl 3 rfl) ?_
  obtain ⟨r3, h4, E5, hsp⟩ := fr_b2 hsp
  refine fl_cW (rest := []) C EX hN J (k_L_compare C.2.2 hlt kx E5) Y_L_compare YS_L_compare Lk_RL_147 rfl hl.1 ⟨Nat.le_of_ble_eq_true rfl, Nat.le_of_ble_eq_true rfl⟩ rfl (Nat.le_of_ble_eq_true rfl) ⟨by show _ ≤ 601024; omega, by show _ ≤ 7293034; omega⟩ dL_law_1225 (fun H locs J => ?_)
  refine lv_istore (lv' := [(5, .int r3), (0, .ref b), (1, .ref (g.2.2 x)), (2, .ref (g2.2.2 mo)), (3, .ref (g.2.2 o)), (4, .int i)]) hx hb dL_law_1228 hl (by decide) rfl (fun ls hl => ?_)
  refine lv_aload_n hx hb dL_law_1230 rfl (lv_at hl 3 rfl) ?_
  refine lv_aload_n hx hb dL_law_1231 rfl (lv_at hl 1 rfl) ?_
  refine lv_iload hx hb dL_law_1232 (lv_at hl 5 rfl) ?_
  refine lv_iconst (v := 1) hx hb dL_law_1234 (by decide) ?_
  refine lv_iadd hx hb dL_law_1235 ?_
  refine va_sld (A := fun q => s.heap.size ≤ q) (xs := xs) hx hb hX hbl (by omega) J.2.2.2.2.2 (fh_in_vp hi1) dL_law_1236 ?_
  refine lv_aload_n hx hb dL_law_1237 rfl (lv_at hl 1 rfl) ?_
  refine lv_iload hx hb dL_law_1238 (lv_at hl 5 rfl) ?_
  refine lv_iconst (v := 2) hx hb dL_law_1240 (by decide) ?_
  refine lv_iadd hx hb dL_law_1241 ?_
  refine va_sld (A := fun q => s.heap.size ≤ q) (xs := xs) hx hb hX hbl (by omega) J.2.2.2.2.2 (fh_in_vp hi2) dL_law_1242 ?_
  obtain ⟨r6, h8, E7, hsp⟩ := fr_b2 hsp
  refine fl_cV (rest := []) (st1 := [.int r6]) C2 J.swap (k_X12_compare C2.2.2 km E7) Y_X12_compare YV_X12_compare Lk_RL_149 km ⟨_, _, rfl, by decide⟩ rfl hl.1 ⟨Nat.le_of_ble_eq_true rfl, Nat.le_of_ble_eq_true rfl⟩ rfl (Nat.le_of_ble_eq_true rfl) ⟨by show _ ≤ 601024; omega, by show _ ≤ 7293034; omega⟩ rfl dL_law_1243 (fun H locs J => ?_)
  have J := J.swap
  refine lv_istore (lv' := [(6, .int r6), (5, .int r3), (0, .ref b), (1, .ref (g.2.2 x)), (2, .ref (g2.2.2 mo)), (3, .ref (g.2.2 o)), (4, .int i)]) hx hb dL_law_1246 hl (by decide) rfl (fun ls hl => ?_)
  refine lv_aload_n hx hb dL_law_1248 rfl (lv_at hl 4 rfl) ?_
  obtain ⟨r9, E10, hsp⟩ := fr_b1 hsp
  refine fl_cV (rest := []) (st1 := [.int r9]) C2 J.swap (k_X12_thrown C2.2.2 km E10) Y_X12_thrown YV_X12_thrown Lk_RL_89 km ⟨_, _, rfl, by decide⟩ rfl hl.1 ⟨Nat.le_of_ble_eq_true rfl, Nat.le_of_ble_eq_true rfl⟩ rfl (Nat.le_of_ble_eq_true rfl) ⟨by show _ ≤ 601024; omega, by show _ ≤ 7293034; omega⟩ rfl dL_law_1249 (fun H locs J => ?_)
  have J := J.swap
  refine lv_iload hx hb dL_law_1252 (lv_at hl 1 rfl) ?_
  refine lv_icmp_eq (tgt := 1259) hx hb dL_law_1254 (by decide) (fun c1 => ?_) (fun c1 => by rw [if_neg c1] at hsp; cases hsp)
  rw [if_pos c1] at hsp
  refine lv_iload hx hb dL_law_1259 (lv_at hl 1 rfl) ?_
  refine lv_if_ne (tgt := 1276) hx hb dL_law_1261 (by decide) (fun c1 => ?_) (fun c1 => ?_)
  · rw [if_neg c1] at hsp
    refine lv_goto (tgt := 1922) hx hb dL_law_1276 (by decide) ?_
    refine W.widen (k := cells + 8) (n := slots + 48) (by omega) (by omega) ?_
    exact hK h4 h8 _ _ _ hsp J (lv_sub hl [2, 3, 4, 5, 6] rfl)
  · rw [if_pos c1] at hsp
    refine lv_aload_n hx hb dL_law_1264 rfl (lv_at hl 5 rfl) ?_
    refine lv_iconst (v := 0) hx hb dL_law_1265 (by decide) ?_
    obtain ⟨hk11, hsp⟩ := fr_ck hsp
    obtain ⟨hi12, hsp⟩ := fr_ck hsp
    refine fr_lald C J.R hk11 hi12 dL_law_1266 ?_
    refine lv_iload hx hb dL_law_1267 (lv_at hl 0 rfl) ?_
    refine lv_i2l hx hb dL_law_1269 rfl ?_
    refine fr_lc_eq (tgt := 1276) hx hb dL_law_1270 dL_law_1271 (by decide) (fun c1 => ?_) (fun c1 => by rw [if_neg c1] at hsp; cases hsp)
    rw [if_pos c1] at hsp
    refine lv_goto (tgt := 1922) hx hb dL_law_1276 (by decide) ?_
    refine W.widen (k := cells + 8) (n := slots + 48) (by omega) (by omega) ?_
    exact hK h4 h8 _ _ _ hsp J (lv_sub hl [2, 3, 4, 5, 6] rfl)

def z_law_17 (S S2 : fh_S) (x mo o : Nat) (xs : Nat → Int32) (L : Nat) (KK : fh_H → fh_H → Option Unit) (h h2 : fh_H) (i : Int32) : Option Unit :=
    fh_ck (fh_in (i + (1 : Int32)) L) (fh_ck (fh_in (i + (2 : Int32)) L) (fh_b2 (z_L_alike S h x (xs (Int32.toNatClampNeg (i + (1 : Int32)))) (xs (Int32.toNatClampNeg (i + (2 : Int32)))) o) (fun r3 h4 => fh_b2 (z_X12_alike S2 h2 mo (xs (Int32.toNatClampNeg (i + (1 : Int32)))) (xs (Int32.toNatClampNeg (i + (2 : Int32))))) (fun r6 h8 => fh_b1 (z_X12_thrown S2 h8 mo) (fun r9 => if r9 = r3 then (if r3 = 0 then (fh_ck (fh_kq S o 14) (fh_ck (fh_in 0 (S.2.2 o)) (if (h4.2.1 o (Int32.toNatClampNeg 0)) = (Int32.toInt64 r6) then (KK h4 h8) else none))) else (KK h4 h8)) else none)))))
set_option maxHeartbeats 4000000 in
set_option maxRecDepth 100000 in
theorem w_law_17 {p : Program} {l : Launch} {e : Env} {s : State} {m : MethodId} {below : List Frame} {meth : Method} {c : Code} {b L : Nat} {xs : Nat → Int32} {z : (Nat → Nat) × (Nat → Nat)} {S S2 : fh_S} {g g2 : fh_G} {x mo o : Nat} {Q : State → Prop} {h h2 : fh_H} {i : Int32} {H : Heap} {locs : List Loc} {cells slots : Nat} {ls : Array Slot} {KK : fh_H → fh_H → Option Unit} (F : fl_C p l s m c b L xs z S g S2 g2 x mo) (J : fl_J s S g h S2 g2 h2 H locs) (hc : cells + 8 ≤ 601024) (hs : slots + 48 ≤ 7293034) (hl : lv_has ls 8 [(0, .ref b), (1, .ref (g.2.2 x)), (2, .ref (g2.2.2 mo)), (3, .ref (g.2.2 o)), (4, .int i)]) (hsp : z_law_17 S S2 x mo o xs L KK h h2 i = some ())
    (hK : ∀ (h h2 : fh_H) (H : Heap) (locs : List Loc) (ls : Array Slot), KK h h2 = some () → fl_J s S g h S2 g2 h2 H locs → lv_has ls 8 [(0, .ref b), (1, .ref (g.2.2 x)), (2, .ref (g2.2.2 mo)), (3, .ref (g.2.2 o)), (4, .int i)] → W p l e room_1 s m #[.ref b] below meth c H locs (cells + 8) (slots + 48) Q (F0 m 1922 ls [])) : W p l e room_1 s m #[.ref b] below meth c H locs cells slots Q (F0 m 1279 ls []) := by
  unfold z_law_17 at hsp
  obtain ⟨C, C2, EX, EX2, hN, hX, hbl, hlt, kx, km⟩ := F
  have hx := C.1.1
  have hb := C.1.2.1
  refine lv_aload_n hx hb dL_law_1279 rfl (lv_at hl 1 rfl) ?_
  refine lv_aload_n hx hb dL_law_1280 rfl (lv_at hl 0 rfl) ?_
  refine lv_iload hx hb dL_law_1281 (lv_at hl 4 rfl) ?_
  refine lv_iconst (v := 1) hx hb dL_law_1283 (by decide) ?_
  refine lv_iadd hx hb dL_law_1284 ?_
  obtain ⟨hi1, hsp⟩ := fr_ck hsp
  refine va_sld (A := fun q => s.heap.size ≤ q) (xs := xs) hx hb hX hbl (by omega) J.2.2.2.2.2 (fh_in_vp hi1) dL_law_1285 ?_
  refine lv_aload_n hx hb dL_law_1286 rfl (lv_at hl 0 rfl) ?_
  refine lv_iload hx hb dL_law_1287 (lv_at hl 4 rfl) ?_
  refine lv_iconst (v := 2) hx hb dL_law_1289 (by decide) ?_
  refine lv_iadd hx hb dL_law_1290 ?_
  obtain ⟨hi2, hsp⟩ := fr_ck hsp
  refine va_sld (A := fun q => s.heap.size ≤ q) (xs := xs) hx hb hX hbl (by omega) J.2.2.2.2.2 (fh_in_vp hi2) dL_law_1291 ?_
  refine lv_aload_n hx hb dL_law_1292 rfl (lv_at hl 3 rfl) ?_
  obtain ⟨r3, h4, E5, hsp⟩ := fr_b2 hsp
  refine fl_cW (rest := []) C EX hN J (k_L_alike C.2.2 hlt kx E5) Y_L_alike YS_L_alike Lk_RL_150 rfl hl.1 ⟨Nat.le_of_ble_eq_true rfl, Nat.le_of_ble_eq_true rfl⟩ rfl (Nat.le_of_ble_eq_true rfl) ⟨by show _ ≤ 601024; omega, by show _ ≤ 7293034; omega⟩ dL_law_1293 (fun H locs J => ?_)
  refine lv_istore (lv' := [(5, .int r3), (0, .ref b), (1, .ref (g.2.2 x)), (2, .ref (g2.2.2 mo)), (3, .ref (g.2.2 o)), (4, .int i)]) hx hb dL_law_1296 hl (by decide) rfl (fun ls hl => ?_)
  refine lv_aload_n hx hb dL_law_1298 rfl (lv_at hl 3 rfl) ?_
  refine lv_aload_n hx hb dL_law_1299 rfl (lv_at hl 1 rfl) ?_
  refine lv_iload hx hb dL_law_1300 (lv_at hl 5 rfl) ?_
  refine lv_iconst (v := 1) hx hb dL_law_1302 (by decide) ?_
  refine lv_iadd hx hb dL_law_1303 ?_
  refine va_sld (A := fun q => s.heap.size ≤ q) (xs := xs) hx hb hX hbl (by omega) J.2.2.2.2.2 (fh_in_vp hi1) dL_law_1304 ?_
  refine lv_aload_n hx hb dL_law_1305 rfl (lv_at hl 1 rfl) ?_
  refine lv_iload hx hb dL_law_1306 (lv_at hl 5 rfl) ?_
  refine lv_iconst (v := 2) hx hb dL_law_1308 (by decide) ?_
  refine lv_iadd hx hb dL_law_1309 ?_
  refine va_sld (A := fun q => s.heap.size ≤ q) (xs := xs) hx hb hX hbl (by omega) J.2.2.2.2.2 (fh_in_vp hi2) dL_law_1310 ?_
  obtain ⟨r6, h8, E7, hsp⟩ := fr_b2 hsp
  refine fl_cV (rest := []) (st1 := [.int r6]) C2 J.swap (k_X12_alike C2.2.2 km E7) Y_X12_alike YV_X12_alike Lk_RL_152 km ⟨_, _, rfl, by decide⟩ rfl hl.1 ⟨Nat.le_of_ble_eq_true rfl, Nat.le_of_ble_eq_true rfl⟩ rfl (Nat.le_of_ble_eq_true rfl) ⟨by show _ ≤ 601024; omega, by show _ ≤ 7293034; omega⟩ rfl dL_law_1311 (fun H locs J => ?_)
  have J := J.swap
  refine lv_istore (lv' := [(6, .int r6), (5, .int r3), (0, .ref b), (1, .ref (g.2.2 x)), (2, .ref (g2.2.2 mo)), (3, .ref (g.2.2 o)), (4, .int i)]) hx hb dL_law_1314 hl (by decide) rfl (fun ls hl => ?_)
  refine lv_aload_n hx hb dL_law_1316 rfl (lv_at hl 4 rfl) ?_
  obtain ⟨r9, E10, hsp⟩ := fr_b1 hsp
  refine fl_cV (rest := []) (st1 := [.int r9]) C2 J.swap (k_X12_thrown C2.2.2 km E10) Y_X12_thrown YV_X12_thrown Lk_RL_89 km ⟨_, _, rfl, by decide⟩ rfl hl.1 ⟨Nat.le_of_ble_eq_true rfl, Nat.le_of_ble_eq_true rfl⟩ rfl (Nat.le_of_ble_eq_true rfl) ⟨by show _ ≤ 601024; omega, by show _ ≤ 7293034; omega⟩ rfl dL_law_1317 (fun H locs J => ?_)
  have J := J.swap
  refine lv_iload hx hb dL_law_1320 (lv_at hl 1 rfl) ?_
  refine lv_icmp_eq (tgt := 1327) hx hb dL_law_1322 (by decide) (fun c1 => ?_) (fun c1 => by rw [if_neg c1] at hsp; cases hsp)
  rw [if_pos c1] at hsp
  refine lv_iload hx hb dL_law_1327 (lv_at hl 1 rfl) ?_
  refine lv_if_ne (tgt := 1344) hx hb dL_law_1329 (by decide) (fun c1 => ?_) (fun c1 => ?_)
  · rw [if_neg c1] at hsp
    refine lv_goto (tgt := 1922) hx hb dL_law_1344 (by decide) ?_
    refine W.widen (k := cells + 8) (n := slots + 48) (by omega) (by omega) ?_
    exact hK h4 h8 _ _ _ hsp J (lv_sub hl [2, 3, 4, 5, 6] rfl)
  · rw [if_pos c1] at hsp
    refine lv_aload_n hx hb dL_law_1332 rfl (lv_at hl 5 rfl) ?_
    refine lv_iconst (v := 0) hx hb dL_law_1333 (by decide) ?_
    obtain ⟨hk11, hsp⟩ := fr_ck hsp
    obtain ⟨hi12, hsp⟩ := fr_ck hsp
    refine fr_lald C J.R hk11 hi12 dL_law_1334 ?_
    refine lv_iload hx hb dL_law_1335 (lv_at hl 0 rfl) ?_
    refine lv_i2l hx hb dL_law_1337 rfl ?_
    refine fr_lc_eq (tgt := 1344) hx hb dL_law_1338 dL_law_1339 (by decide) (fun c1 => ?_) (fun c1 => by rw [if_neg c1] at hsp; cases hsp)
    rw [if_pos c1] at hsp
    refine lv_goto (tgt := 1922) hx hb dL_law_1344 (by decide) ?_
    refine W.widen (k := cells + 8) (n := slots + 48) (by omega) (by omega) ?_
    exact hK h4 h8 _ _ _ hsp J (lv_sub hl [2, 3, 4, 5, 6] rfl)

def z_law_18 (S S2 : fh_S) (x mo o : Nat) (xs : Nat → Int32) (L : Nat) (KK : fh_H → fh_H → Option Unit) (h h2 : fh_H) (i : Int32) : Option Unit :=
    fh_ck (fh_in (i + (1 : Int32)) L) (fh_ck (fh_in (i + (2 : Int32)) L) (fh_b2 (z_L_again S h x (xs (Int32.toNatClampNeg (i + (1 : Int32)))) (xs (Int32.toNatClampNeg (i + (2 : Int32)))) o) (fun r3 h4 => fh_b2 (z_X12_again S2 h2 mo (xs (Int32.toNatClampNeg (i + (1 : Int32)))) (xs (Int32.toNatClampNeg (i + (2 : Int32))))) (fun r6 h8 => fh_b1 (z_X12_thrown S2 h8 mo) (fun r9 => if r9 = r3 then (if r3 = 0 then (fh_ck (fh_kq S o 14) (fh_ck (fh_in 0 (S.2.2 o)) (if (h4.2.1 o (Int32.toNatClampNeg 0)) = (Int32.toInt64 r6) then (KK h4 h8) else none))) else (KK h4 h8)) else none)))))
set_option maxHeartbeats 4000000 in
set_option maxRecDepth 100000 in
theorem w_law_18 {p : Program} {l : Launch} {e : Env} {s : State} {m : MethodId} {below : List Frame} {meth : Method} {c : Code} {b L : Nat} {xs : Nat → Int32} {z : (Nat → Nat) × (Nat → Nat)} {S S2 : fh_S} {g g2 : fh_G} {x mo o : Nat} {Q : State → Prop} {h h2 : fh_H} {i : Int32} {H : Heap} {locs : List Loc} {cells slots : Nat} {ls : Array Slot} {KK : fh_H → fh_H → Option Unit} (F : fl_C p l s m c b L xs z S g S2 g2 x mo) (J : fl_J s S g h S2 g2 h2 H locs) (hc : cells + 8 ≤ 601024) (hs : slots + 48 ≤ 7293034) (hl : lv_has ls 8 [(0, .ref b), (1, .ref (g.2.2 x)), (2, .ref (g2.2.2 mo)), (3, .ref (g.2.2 o)), (4, .int i)]) (hsp : z_law_18 S S2 x mo o xs L KK h h2 i = some ())
    (hK : ∀ (h h2 : fh_H) (H : Heap) (locs : List Loc) (ls : Array Slot), KK h h2 = some () → fl_J s S g h S2 g2 h2 H locs → lv_has ls 8 [(0, .ref b), (1, .ref (g.2.2 x)), (2, .ref (g2.2.2 mo)), (3, .ref (g.2.2 o)), (4, .int i)] → W p l e room_1 s m #[.ref b] below meth c H locs (cells + 8) (slots + 48) Q (F0 m 1922 ls [])) : W p l e room_1 s m #[.ref b] below meth c H locs cells slots Q (F0 m 1347 ls []) := by
  unfold z_law_18 at hsp
  obtain ⟨C, C2, EX, EX2, hN, hX, hbl, hlt, kx, km⟩ := F
  have hx := C.1.1
  have hb := C.1.2.1
  refine lv_aload_n hx hb dL_law_1347 rfl (lv_at hl 1 rfl) ?_
  refine lv_aload_n hx hb dL_law_1348 rfl (lv_at hl 0 rfl) ?_
  refine lv_iload hx hb dL_law_1349 (lv_at hl 4 rfl) ?_
  refine lv_iconst (v := 1) hx hb dL_law_1351 (by decide) ?_
  refine lv_iadd hx hb dL_law_1352 ?_
  obtain ⟨hi1, hsp⟩ := fr_ck hsp
  refine va_sld (A := fun q => s.heap.size ≤ q) (xs := xs) hx hb hX hbl (by omega) J.2.2.2.2.2 (fh_in_vp hi1) dL_law_1353 ?_
  refine lv_aload_n hx hb dL_law_1354 rfl (lv_at hl 0 rfl) ?_
  refine lv_iload hx hb dL_law_1355 (lv_at hl 4 rfl) ?_
  refine lv_iconst (v := 2) hx hb dL_law_1357 (by decide) ?_
  refine lv_iadd hx hb dL_law_1358 ?_
  obtain ⟨hi2, hsp⟩ := fr_ck hsp
  refine va_sld (A := fun q => s.heap.size ≤ q) (xs := xs) hx hb hX hbl (by omega) J.2.2.2.2.2 (fh_in_vp hi2) dL_law_1359 ?_
  refine lv_aload_n hx hb dL_law_1360 rfl (lv_at hl 3 rfl) ?_
  obtain ⟨r3, h4, E5, hsp⟩ := fr_b2 hsp
  refine fl_cW (rest := []) C EX hN J (k_L_again C.2.2 hlt kx E5) Y_L_again YS_L_again Lk_RL_153 rfl hl.1 ⟨Nat.le_of_ble_eq_true rfl, Nat.le_of_ble_eq_true rfl⟩ rfl (Nat.le_of_ble_eq_true rfl) ⟨by show _ ≤ 601024; omega, by show _ ≤ 7293034; omega⟩ dL_law_1361 (fun H locs J => ?_)
  refine lv_istore (lv' := [(5, .int r3), (0, .ref b), (1, .ref (g.2.2 x)), (2, .ref (g2.2.2 mo)), (3, .ref (g.2.2 o)), (4, .int i)]) hx hb dL_law_1364 hl (by decide) rfl (fun ls hl => ?_)
  refine lv_aload_n hx hb dL_law_1366 rfl (lv_at hl 3 rfl) ?_
  refine lv_aload_n hx hb dL_law_1367 rfl (lv_at hl 1 rfl) ?_
  refine lv_iload hx hb dL_law_1368 (lv_at hl 5 rfl) ?_
  refine lv_iconst (v := 1) hx hb dL_law_1370 (by decide) ?_
  refine lv_iadd hx hb dL_law_1371 ?_
  refine va_sld (A := fun q => s.heap.size ≤ q) (xs := xs) hx hb hX hbl (by omega) J.2.2.2.2.2 (fh_in_vp hi1) dL_law_1372 ?_
  refine lv_aload_n hx hb dL_law_1373 rfl (lv_at hl 1 rfl) ?_
  refine lv_iload hx hb dL_law_1374 (lv_at hl 5 rfl) ?_
  refine lv_iconst (v := 2) hx hb dL_law_1376 (by decide) ?_
  refine lv_iadd hx hb dL_law_1377 ?_
  refine va_sld (A := fun q => s.heap.size ≤ q) (xs := xs) hx hb hX hbl (by omega) J.2.2.2.2.2 (fh_in_vp hi2) dL_law_1378 ?_
  obtain ⟨r6, h8, E7, hsp⟩ := fr_b2 hsp
  refine fl_cV (rest := []) (st1 := [.int r6]) C2 J.swap (k_X12_again C2.2.2 km E7) Y_X12_again YV_X12_again Lk_RL_155 km ⟨_, _, rfl, by decide⟩ rfl hl.1 ⟨Nat.le_of_ble_eq_true rfl, Nat.le_of_ble_eq_true rfl⟩ rfl (Nat.le_of_ble_eq_true rfl) ⟨by show _ ≤ 601024; omega, by show _ ≤ 7293034; omega⟩ rfl dL_law_1379 (fun H locs J => ?_)
  have J := J.swap
  refine lv_istore (lv' := [(6, .int r6), (5, .int r3), (0, .ref b), (1, .ref (g.2.2 x)), (2, .ref (g2.2.2 mo)), (3, .ref (g.2.2 o)), (4, .int i)]) hx hb dL_law_1382 hl (by decide) rfl (fun ls hl => ?_)
  refine lv_aload_n hx hb dL_law_1384 rfl (lv_at hl 4 rfl) ?_
  obtain ⟨r9, E10, hsp⟩ := fr_b1 hsp
  refine fl_cV (rest := []) (st1 := [.int r9]) C2 J.swap (k_X12_thrown C2.2.2 km E10) Y_X12_thrown YV_X12_thrown Lk_RL_89 km ⟨_, _, rfl, by decide⟩ rfl hl.1 ⟨Nat.le_of_ble_eq_true rfl, Nat.le_of_ble_eq_true rfl⟩ rfl (Nat.le_of_ble_eq_true rfl) ⟨by show _ ≤ 601024; omega, by show _ ≤ 7293034; omega⟩ rfl dL_law_1385 (fun H locs J => ?_)
  have J := J.swap
  refine lv_iload hx hb dL_law_1388 (lv_at hl 1 rfl) ?_
  refine lv_icmp_eq (tgt := 1395) hx hb dL_law_1390 (by decide) (fun c1 => ?_) (fun c1 => by rw [if_neg c1] at hsp; cases hsp)
  rw [if_pos c1] at hsp
  refine lv_iload hx hb dL_law_1395 (lv_at hl 1 rfl) ?_
  refine lv_if_ne (tgt := 1412) hx hb dL_law_1397 (by decide) (fun c1 => ?_) (fun c1 => ?_)
  · rw [if_neg c1] at hsp
    refine lv_goto (tgt := 1922) hx hb dL_law_1412 (by decide) ?_
    refine W.widen (k := cells + 8) (n := slots + 48) (by omega) (by omega) ?_
    exact hK h4 h8 _ _ _ hsp J (lv_sub hl [2, 3, 4, 5, 6] rfl)
  · rw [if_pos c1] at hsp
    refine lv_aload_n hx hb dL_law_1400 rfl (lv_at hl 5 rfl) ?_
    refine lv_iconst (v := 0) hx hb dL_law_1401 (by decide) ?_
    obtain ⟨hk11, hsp⟩ := fr_ck hsp
    obtain ⟨hi12, hsp⟩ := fr_ck hsp
    refine fr_lald C J.R hk11 hi12 dL_law_1402 ?_
    refine lv_iload hx hb dL_law_1403 (lv_at hl 0 rfl) ?_
    refine lv_i2l hx hb dL_law_1405 rfl ?_
    refine fr_lc_eq (tgt := 1412) hx hb dL_law_1406 dL_law_1407 (by decide) (fun c1 => ?_) (fun c1 => by rw [if_neg c1] at hsp; cases hsp)
    rw [if_pos c1] at hsp
    refine lv_goto (tgt := 1922) hx hb dL_law_1412 (by decide) ?_
    refine W.widen (k := cells + 8) (n := slots + 48) (by omega) (by omega) ?_
    exact hK h4 h8 _ _ _ hsp J (lv_sub hl [2, 3, 4, 5, 6] rfl)

def z_law_19 (S S2 : fh_S) (x mo o : Nat) (xs : Nat → Int32) (L : Nat) (KK : fh_H → fh_H → Option Unit) (h h2 : fh_H) (i : Int32) : Option Unit :=
    fh_ck (fh_in (i + (1 : Int32)) L) (fh_ck (fh_in (i + (2 : Int32)) L) (fh_ck (fh_in (i + (3 : Int32)) L) (fh_b2 (z_L_tails S h x (xs (Int32.toNatClampNeg (i + (1 : Int32)))) (xs (Int32.toNatClampNeg (i + (2 : Int32)))) (xs (Int32.toNatClampNeg (i + (3 : Int32)))) o) (fun r4 h5 => fh_b2 (z_X12_tails S2 h2 mo (xs (Int32.toNatClampNeg (i + (1 : Int32)))) (xs (Int32.toNatClampNeg (i + (2 : Int32)))) (xs (Int32.toNatClampNeg (i + (3 : Int32))))) (fun r7 h9 => fh_b1 (z_X12_thrown S2 h9 mo) (fun r10 => if r10 = r4 then (if r4 = 0 then (fh_ck (fh_kq S o 14) (fh_ck (fh_in 0 (S.2.2 o)) (if (h5.2.1 o (Int32.toNatClampNeg 0)) = (Int32.toInt64 r7) then (KK h5 h9) else none))) else (KK h5 h9)) else none))))))
set_option maxHeartbeats 4000000 in
set_option maxRecDepth 100000 in
theorem w_law_19 {p : Program} {l : Launch} {e : Env} {s : State} {m : MethodId} {below : List Frame} {meth : Method} {c : Code} {b L : Nat} {xs : Nat → Int32} {z : (Nat → Nat) × (Nat → Nat)} {S S2 : fh_S} {g g2 : fh_G} {x mo o : Nat} {Q : State → Prop} {h h2 : fh_H} {i : Int32} {H : Heap} {locs : List Loc} {cells slots : Nat} {ls : Array Slot} {KK : fh_H → fh_H → Option Unit} (F : fl_C p l s m c b L xs z S g S2 g2 x mo) (J : fl_J s S g h S2 g2 h2 H locs) (hc : cells + 8 ≤ 601024) (hs : slots + 48 ≤ 7293034) (hl : lv_has ls 8 [(0, .ref b), (1, .ref (g.2.2 x)), (2, .ref (g2.2.2 mo)), (3, .ref (g.2.2 o)), (4, .int i)]) (hsp : z_law_19 S S2 x mo o xs L KK h h2 i = some ())
    (hK : ∀ (h h2 : fh_H) (H : Heap) (locs : List Loc) (ls : Array Slot), KK h h2 = some () → fl_J s S g h S2 g2 h2 H locs → lv_has ls 8 [(0, .ref b), (1, .ref (g.2.2 x)), (2, .ref (g2.2.2 mo)), (3, .ref (g.2.2 o)), (4, .int i)] → W p l e room_1 s m #[.ref b] below meth c H locs (cells + 8) (slots + 48) Q (F0 m 1922 ls [])) : W p l e room_1 s m #[.ref b] below meth c H locs cells slots Q (F0 m 1415 ls []) := by
  unfold z_law_19 at hsp
  obtain ⟨C, C2, EX, EX2, hN, hX, hbl, hlt, kx, km⟩ := F
  have hx := C.1.1
  have hb := C.1.2.1
  refine lv_aload_n hx hb dL_law_1415 rfl (lv_at hl 1 rfl) ?_
  refine lv_aload_n hx hb dL_law_1416 rfl (lv_at hl 0 rfl) ?_
  refine lv_iload hx hb dL_law_1417 (lv_at hl 4 rfl) ?_
  refine lv_iconst (v := 1) hx hb dL_law_1419 (by decide) ?_
  refine lv_iadd hx hb dL_law_1420 ?_
  obtain ⟨hi1, hsp⟩ := fr_ck hsp
  refine va_sld (A := fun q => s.heap.size ≤ q) (xs := xs) hx hb hX hbl (by omega) J.2.2.2.2.2 (fh_in_vp hi1) dL_law_1421 ?_
  refine lv_aload_n hx hb dL_law_1422 rfl (lv_at hl 0 rfl) ?_
  refine lv_iload hx hb dL_law_1423 (lv_at hl 4 rfl) ?_
  refine lv_iconst (v := 2) hx hb dL_law_1425 (by decide) ?_
  refine lv_iadd hx hb dL_law_1426 ?_
  obtain ⟨hi2, hsp⟩ := fr_ck hsp
  refine va_sld (A := fun q => s.heap.size ≤ q) (xs := xs) hx hb hX hbl (by omega) J.2.2.2.2.2 (fh_in_vp hi2) dL_law_1427 ?_
  refine lv_aload_n hx hb dL_law_1428 rfl (lv_at hl 0 rfl) ?_
  refine lv_iload hx hb dL_law_1429 (lv_at hl 4 rfl) ?_
  refine lv_iconst (v := 3) hx hb dL_law_1431 (by decide) ?_
  refine lv_iadd hx hb dL_law_1432 ?_
  obtain ⟨hi3, hsp⟩ := fr_ck hsp
  refine va_sld (A := fun q => s.heap.size ≤ q) (xs := xs) hx hb hX hbl (by omega) J.2.2.2.2.2 (fh_in_vp hi3) dL_law_1433 ?_
  refine lv_aload_n hx hb dL_law_1434 rfl (lv_at hl 3 rfl) ?_
  obtain ⟨r4, h5, E6, hsp⟩ := fr_b2 hsp
  refine fl_cW (rest := []) C EX hN J (k_L_tails C.2.2 hlt kx E6) Y_L_tails YS_L_tails Lk_RL_156 rfl hl.1 ⟨Nat.le_of_ble_eq_true rfl, Nat.le_of_ble_eq_true rfl⟩ rfl (Nat.le_of_ble_eq_true rfl) ⟨by show _ ≤ 601024; omega, by show _ ≤ 7293034; omega⟩ dL_law_1435 (fun H locs J => ?_)
  refine lv_istore (lv' := [(5, .int r4), (0, .ref b), (1, .ref (g.2.2 x)), (2, .ref (g2.2.2 mo)), (3, .ref (g.2.2 o)), (4, .int i)]) hx hb dL_law_1438 hl (by decide) rfl (fun ls hl => ?_)
  refine lv_aload_n hx hb dL_law_1440 rfl (lv_at hl 3 rfl) ?_
  refine lv_aload_n hx hb dL_law_1441 rfl (lv_at hl 1 rfl) ?_
  refine lv_iload hx hb dL_law_1442 (lv_at hl 5 rfl) ?_
  refine lv_iconst (v := 1) hx hb dL_law_1444 (by decide) ?_
  refine lv_iadd hx hb dL_law_1445 ?_
  refine va_sld (A := fun q => s.heap.size ≤ q) (xs := xs) hx hb hX hbl (by omega) J.2.2.2.2.2 (fh_in_vp hi1) dL_law_1446 ?_
  refine lv_aload_n hx hb dL_law_1447 rfl (lv_at hl 1 rfl) ?_
  refine lv_iload hx hb dL_law_1448 (lv_at hl 5 rfl) ?_
  refine lv_iconst (v := 2) hx hb dL_law_1450 (by decide) ?_
  refine lv_iadd hx hb dL_law_1451 ?_
  refine va_sld (A := fun q => s.heap.size ≤ q) (xs := xs) hx hb hX hbl (by omega) J.2.2.2.2.2 (fh_in_vp hi2) dL_law_1452 ?_
  refine lv_aload_n hx hb dL_law_1453 rfl (lv_at hl 1 rfl) ?_
  refine lv_iload hx hb dL_law_1454 (lv_at hl 5 rfl) ?_
  refine lv_iconst (v := 3) hx hb dL_law_1456 (by decide) ?_
  refine lv_iadd hx hb dL_law_1457 ?_
  refine va_sld (A := fun q => s.heap.size ≤ q) (xs := xs) hx hb hX hbl (by omega) J.2.2.2.2.2 (fh_in_vp hi3) dL_law_1458 ?_
  obtain ⟨r7, h9, E8, hsp⟩ := fr_b2 hsp
  refine fl_cV (rest := []) (st1 := [.int r7]) C2 J.swap (k_X12_tails C2.2.2 km E8) Y_X12_tails YV_X12_tails Lk_RL_159 km ⟨_, _, rfl, by decide⟩ rfl hl.1 ⟨Nat.le_of_ble_eq_true rfl, Nat.le_of_ble_eq_true rfl⟩ rfl (Nat.le_of_ble_eq_true rfl) ⟨by show _ ≤ 601024; omega, by show _ ≤ 7293034; omega⟩ rfl dL_law_1459 (fun H locs J => ?_)
  have J := J.swap
  refine lv_istore (lv' := [(6, .int r7), (5, .int r4), (0, .ref b), (1, .ref (g.2.2 x)), (2, .ref (g2.2.2 mo)), (3, .ref (g.2.2 o)), (4, .int i)]) hx hb dL_law_1462 hl (by decide) rfl (fun ls hl => ?_)
  refine lv_aload_n hx hb dL_law_1464 rfl (lv_at hl 4 rfl) ?_
  obtain ⟨r10, E11, hsp⟩ := fr_b1 hsp
  refine fl_cV (rest := []) (st1 := [.int r10]) C2 J.swap (k_X12_thrown C2.2.2 km E11) Y_X12_thrown YV_X12_thrown Lk_RL_89 km ⟨_, _, rfl, by decide⟩ rfl hl.1 ⟨Nat.le_of_ble_eq_true rfl, Nat.le_of_ble_eq_true rfl⟩ rfl (Nat.le_of_ble_eq_true rfl) ⟨by show _ ≤ 601024; omega, by show _ ≤ 7293034; omega⟩ rfl dL_law_1465 (fun H locs J => ?_)
  have J := J.swap
  refine lv_iload hx hb dL_law_1468 (lv_at hl 1 rfl) ?_
  refine lv_icmp_eq (tgt := 1475) hx hb dL_law_1470 (by decide) (fun c1 => ?_) (fun c1 => by rw [if_neg c1] at hsp; cases hsp)
  rw [if_pos c1] at hsp
  refine lv_iload hx hb dL_law_1475 (lv_at hl 1 rfl) ?_
  refine lv_if_ne (tgt := 1492) hx hb dL_law_1477 (by decide) (fun c1 => ?_) (fun c1 => ?_)
  · rw [if_neg c1] at hsp
    refine lv_goto (tgt := 1922) hx hb dL_law_1492 (by decide) ?_
    refine W.widen (k := cells + 8) (n := slots + 48) (by omega) (by omega) ?_
    exact hK h5 h9 _ _ _ hsp J (lv_sub hl [2, 3, 4, 5, 6] rfl)
  · rw [if_pos c1] at hsp
    refine lv_aload_n hx hb dL_law_1480 rfl (lv_at hl 5 rfl) ?_
    refine lv_iconst (v := 0) hx hb dL_law_1481 (by decide) ?_
    obtain ⟨hk12, hsp⟩ := fr_ck hsp
    obtain ⟨hi13, hsp⟩ := fr_ck hsp
    refine fr_lald C J.R hk12 hi13 dL_law_1482 ?_
    refine lv_iload hx hb dL_law_1483 (lv_at hl 0 rfl) ?_
    refine lv_i2l hx hb dL_law_1485 rfl ?_
    refine fr_lc_eq (tgt := 1492) hx hb dL_law_1486 dL_law_1487 (by decide) (fun c1 => ?_) (fun c1 => by rw [if_neg c1] at hsp; cases hsp)
    rw [if_pos c1] at hsp
    refine lv_goto (tgt := 1922) hx hb dL_law_1492 (by decide) ?_
    refine W.widen (k := cells + 8) (n := slots + 48) (by omega) (by omega) ?_
    exact hK h5 h9 _ _ _ hsp J (lv_sub hl [2, 3, 4, 5, 6] rfl)

def z_law_20 (S S2 : fh_S) (x mo o : Nat) (xs : Nat → Int32) (L : Nat) (KK : fh_H → fh_H → Option Unit) (h h2 : fh_H) (i : Int32) : Option Unit :=
    fh_ck (fh_in (i + (1 : Int32)) L) (fh_ck (fh_in (i + (2 : Int32)) L) (fh_b2 (z_L_floor S h x (xs (Int32.toNatClampNeg (i + (1 : Int32)))) (xs (Int32.toNatClampNeg (i + (2 : Int32)))) o) (fun r3 h4 => fh_b2 (z_X12_floor S2 h2 mo (xs (Int32.toNatClampNeg (i + (1 : Int32)))) (xs (Int32.toNatClampNeg (i + (2 : Int32))))) (fun r6 h8 => fh_b1 (z_X12_thrown S2 h8 mo) (fun r9 => if r9 = r3 then (if r3 = 0 then (fh_ck (fh_kq S o 14) (fh_ck (fh_in 0 (S.2.2 o)) (if (h4.2.1 o (Int32.toNatClampNeg 0)) = (Int32.toInt64 r6) then (KK h4 h8) else none))) else (KK h4 h8)) else none)))))
set_option maxHeartbeats 4000000 in
set_option maxRecDepth 100000 in
theorem w_law_20 {p : Program} {l : Launch} {e : Env} {s : State} {m : MethodId} {below : List Frame} {meth : Method} {c : Code} {b L : Nat} {xs : Nat → Int32} {z : (Nat → Nat) × (Nat → Nat)} {S S2 : fh_S} {g g2 : fh_G} {x mo o : Nat} {Q : State → Prop} {h h2 : fh_H} {i : Int32} {H : Heap} {locs : List Loc} {cells slots : Nat} {ls : Array Slot} {KK : fh_H → fh_H → Option Unit} (F : fl_C p l s m c b L xs z S g S2 g2 x mo) (J : fl_J s S g h S2 g2 h2 H locs) (hc : cells + 8 ≤ 601024) (hs : slots + 48 ≤ 7293034) (hl : lv_has ls 8 [(0, .ref b), (1, .ref (g.2.2 x)), (2, .ref (g2.2.2 mo)), (3, .ref (g.2.2 o)), (4, .int i)]) (hsp : z_law_20 S S2 x mo o xs L KK h h2 i = some ())
    (hK : ∀ (h h2 : fh_H) (H : Heap) (locs : List Loc) (ls : Array Slot), KK h h2 = some () → fl_J s S g h S2 g2 h2 H locs → lv_has ls 8 [(0, .ref b), (1, .ref (g.2.2 x)), (2, .ref (g2.2.2 mo)), (3, .ref (g.2.2 o)), (4, .int i)] → W p l e room_1 s m #[.ref b] below meth c H locs (cells + 8) (slots + 48) Q (F0 m 1922 ls [])) : W p l e room_1 s m #[.ref b] below meth c H locs cells slots Q (F0 m 1495 ls []) := by
  unfold z_law_20 at hsp
  obtain ⟨C, C2, EX, EX2, hN, hX, hbl, hlt, kx, km⟩ := F
  have hx := C.1.1
  have hb := C.1.2.1
  refine lv_aload_n hx hb dL_law_1495 rfl (lv_at hl 1 rfl) ?_
  refine lv_aload_n hx hb dL_law_1496 rfl (lv_at hl 0 rfl) ?_
  refine lv_iload hx hb dL_law_1497 (lv_at hl 4 rfl) ?_
  refine lv_iconst (v := 1) hx hb dL_law_1499 (by decide) ?_
  refine lv_iadd hx hb dL_law_1500 ?_
  obtain ⟨hi1, hsp⟩ := fr_ck hsp
  refine va_sld (A := fun q => s.heap.size ≤ q) (xs := xs) hx hb hX hbl (by omega) J.2.2.2.2.2 (fh_in_vp hi1) dL_law_1501 ?_
  refine lv_aload_n hx hb dL_law_1502 rfl (lv_at hl 0 rfl) ?_
  refine lv_iload hx hb dL_law_1503 (lv_at hl 4 rfl) ?_
  refine lv_iconst (v := 2) hx hb dL_law_1505 (by decide) ?_
  refine lv_iadd hx hb dL_law_1506 ?_
  obtain ⟨hi2, hsp⟩ := fr_ck hsp
  refine va_sld (A := fun q => s.heap.size ≤ q) (xs := xs) hx hb hX hbl (by omega) J.2.2.2.2.2 (fh_in_vp hi2) dL_law_1507 ?_
  refine lv_aload_n hx hb dL_law_1508 rfl (lv_at hl 3 rfl) ?_
  obtain ⟨r3, h4, E5, hsp⟩ := fr_b2 hsp
  refine fl_cW (rest := []) C EX hN J (k_L_floor C.2.2 hlt kx E5) Y_L_floor YS_L_floor Lk_RL_160 rfl hl.1 ⟨Nat.le_of_ble_eq_true rfl, Nat.le_of_ble_eq_true rfl⟩ rfl (Nat.le_of_ble_eq_true rfl) ⟨by show _ ≤ 601024; omega, by show _ ≤ 7293034; omega⟩ dL_law_1509 (fun H locs J => ?_)
  refine lv_istore (lv' := [(5, .int r3), (0, .ref b), (1, .ref (g.2.2 x)), (2, .ref (g2.2.2 mo)), (3, .ref (g.2.2 o)), (4, .int i)]) hx hb dL_law_1512 hl (by decide) rfl (fun ls hl => ?_)
  refine lv_aload_n hx hb dL_law_1514 rfl (lv_at hl 3 rfl) ?_
  refine lv_aload_n hx hb dL_law_1515 rfl (lv_at hl 1 rfl) ?_
  refine lv_iload hx hb dL_law_1516 (lv_at hl 5 rfl) ?_
  refine lv_iconst (v := 1) hx hb dL_law_1518 (by decide) ?_
  refine lv_iadd hx hb dL_law_1519 ?_
  refine va_sld (A := fun q => s.heap.size ≤ q) (xs := xs) hx hb hX hbl (by omega) J.2.2.2.2.2 (fh_in_vp hi1) dL_law_1520 ?_
  refine lv_aload_n hx hb dL_law_1521 rfl (lv_at hl 1 rfl) ?_
  refine lv_iload hx hb dL_law_1522 (lv_at hl 5 rfl) ?_
  refine lv_iconst (v := 2) hx hb dL_law_1524 (by decide) ?_
  refine lv_iadd hx hb dL_law_1525 ?_
  refine va_sld (A := fun q => s.heap.size ≤ q) (xs := xs) hx hb hX hbl (by omega) J.2.2.2.2.2 (fh_in_vp hi2) dL_law_1526 ?_
  obtain ⟨r6, h8, E7, hsp⟩ := fr_b2 hsp
  refine fl_cV (rest := []) (st1 := [.int r6]) C2 J.swap (k_X12_floor C2.2.2 km E7) Y_X12_floor YV_X12_floor Lk_RL_162 km ⟨_, _, rfl, by decide⟩ rfl hl.1 ⟨Nat.le_of_ble_eq_true rfl, Nat.le_of_ble_eq_true rfl⟩ rfl (Nat.le_of_ble_eq_true rfl) ⟨by show _ ≤ 601024; omega, by show _ ≤ 7293034; omega⟩ rfl dL_law_1527 (fun H locs J => ?_)
  have J := J.swap
  refine lv_istore (lv' := [(6, .int r6), (5, .int r3), (0, .ref b), (1, .ref (g.2.2 x)), (2, .ref (g2.2.2 mo)), (3, .ref (g.2.2 o)), (4, .int i)]) hx hb dL_law_1530 hl (by decide) rfl (fun ls hl => ?_)
  refine lv_aload_n hx hb dL_law_1532 rfl (lv_at hl 4 rfl) ?_
  obtain ⟨r9, E10, hsp⟩ := fr_b1 hsp
  refine fl_cV (rest := []) (st1 := [.int r9]) C2 J.swap (k_X12_thrown C2.2.2 km E10) Y_X12_thrown YV_X12_thrown Lk_RL_89 km ⟨_, _, rfl, by decide⟩ rfl hl.1 ⟨Nat.le_of_ble_eq_true rfl, Nat.le_of_ble_eq_true rfl⟩ rfl (Nat.le_of_ble_eq_true rfl) ⟨by show _ ≤ 601024; omega, by show _ ≤ 7293034; omega⟩ rfl dL_law_1533 (fun H locs J => ?_)
  have J := J.swap
  refine lv_iload hx hb dL_law_1536 (lv_at hl 1 rfl) ?_
  refine lv_icmp_eq (tgt := 1543) hx hb dL_law_1538 (by decide) (fun c1 => ?_) (fun c1 => by rw [if_neg c1] at hsp; cases hsp)
  rw [if_pos c1] at hsp
  refine lv_iload hx hb dL_law_1543 (lv_at hl 1 rfl) ?_
  refine lv_if_ne (tgt := 1560) hx hb dL_law_1545 (by decide) (fun c1 => ?_) (fun c1 => ?_)
  · rw [if_neg c1] at hsp
    refine lv_goto (tgt := 1922) hx hb dL_law_1560 (by decide) ?_
    refine W.widen (k := cells + 8) (n := slots + 48) (by omega) (by omega) ?_
    exact hK h4 h8 _ _ _ hsp J (lv_sub hl [2, 3, 4, 5, 6] rfl)
  · rw [if_pos c1] at hsp
    refine lv_aload_n hx hb dL_law_1548 rfl (lv_at hl 5 rfl) ?_
    refine lv_iconst (v := 0) hx hb dL_law_1549 (by decide) ?_
    obtain ⟨hk11, hsp⟩ := fr_ck hsp
    obtain ⟨hi12, hsp⟩ := fr_ck hsp
    refine fr_lald C J.R hk11 hi12 dL_law_1550 ?_
    refine lv_iload hx hb dL_law_1551 (lv_at hl 0 rfl) ?_
    refine lv_i2l hx hb dL_law_1553 rfl ?_
    refine fr_lc_eq (tgt := 1560) hx hb dL_law_1554 dL_law_1555 (by decide) (fun c1 => ?_) (fun c1 => by rw [if_neg c1] at hsp; cases hsp)
    rw [if_pos c1] at hsp
    refine lv_goto (tgt := 1922) hx hb dL_law_1560 (by decide) ?_
    refine W.widen (k := cells + 8) (n := slots + 48) (by omega) (by omega) ?_
    exact hK h4 h8 _ _ _ hsp J (lv_sub hl [2, 3, 4, 5, 6] rfl)

def z_law_21 (S S2 : fh_S) (x mo o : Nat) (xs : Nat → Int32) (L : Nat) (KK : fh_H → fh_H → Option Unit) (h h2 : fh_H) (i : Int32) : Option Unit :=
    fh_ck (fh_in (i + (1 : Int32)) L) (fh_ck (fh_in (i + (2 : Int32)) L) (fh_ck (fh_in (i + (3 : Int32)) L) (fh_ck (fh_in (i + (4 : Int32)) L) (fh_ck (fh_in (i + (5 : Int32)) L) (fh_ck (fh_in (i + (6 : Int32)) L) (fh_b2 (z_L_would S h x (xs (Int32.toNatClampNeg (i + (1 : Int32)))) (xs (Int32.toNatClampNeg (i + (2 : Int32)))) (xs (Int32.toNatClampNeg (i + (3 : Int32)))) (xs (Int32.toNatClampNeg (i + (4 : Int32)))) (xs (Int32.toNatClampNeg (i + (5 : Int32)))) (xs (Int32.toNatClampNeg (i + (6 : Int32)))) o) (fun r7 h8 => fh_b2 (z_X12_would S2 h2 mo (xs (Int32.toNatClampNeg (i + (1 : Int32)))) (xs (Int32.toNatClampNeg (i + (2 : Int32)))) (xs (Int32.toNatClampNeg (i + (3 : Int32)))) (xs (Int32.toNatClampNeg (i + (4 : Int32)))) (xs (Int32.toNatClampNeg (i + (5 : Int32)))) (xs (Int32.toNatClampNeg (i + (6 : Int32))))) (fun r10 h12 => fh_b1 (z_X12_thrown S2 h12 mo) (fun r13 => if r13 = r7 then (if r7 = 0 then (fh_ck (fh_kq S o 14) (fh_ck (fh_in 0 (S.2.2 o)) (if (h8.2.1 o (Int32.toNatClampNeg 0)) = (Int32.toInt64 r10) then (KK h8 h12) else none))) else (KK h8 h12)) else none)))))))))
set_option maxHeartbeats 4000000 in
set_option maxRecDepth 100000 in
theorem w_law_21 {p : Program} {l : Launch} {e : Env} {s : State} {m : MethodId} {below : List Frame} {meth : Method} {c : Code} {b L : Nat} {xs : Nat → Int32} {z : (Nat → Nat) × (Nat → Nat)} {S S2 : fh_S} {g g2 : fh_G} {x mo o : Nat} {Q : State → Prop} {h h2 : fh_H} {i : Int32} {H : Heap} {locs : List Loc} {cells slots : Nat} {ls : Array Slot} {KK : fh_H → fh_H → Option Unit} (F : fl_C p l s m c b L xs z S g S2 g2 x mo) (J : fl_J s S g h S2 g2 h2 H locs) (hc : cells + 8 ≤ 601024) (hs : slots + 48 ≤ 7293034) (hl : lv_has ls 8 [(0, .ref b), (1, .ref (g.2.2 x)), (2, .ref (g2.2.2 mo)), (3, .ref (g.2.2 o)), (4, .int i)]) (hsp : z_law_21 S S2 x mo o xs L KK h h2 i = some ())
    (hK : ∀ (h h2 : fh_H) (H : Heap) (locs : List Loc) (ls : Array Slot), KK h h2 = some () → fl_J s S g h S2 g2 h2 H locs → lv_has ls 8 [(0, .ref b), (1, .ref (g.2.2 x)), (2, .ref (g2.2.2 mo)), (3, .ref (g.2.2 o)), (4, .int i)] → W p l e room_1 s m #[.ref b] below meth c H locs (cells + 8) (slots + 48) Q (F0 m 1922 ls [])) : W p l e room_1 s m #[.ref b] below meth c H locs cells slots Q (F0 m 1563 ls []) := by
  unfold z_law_21 at hsp
  obtain ⟨C, C2, EX, EX2, hN, hX, hbl, hlt, kx, km⟩ := F
  have hx := C.1.1
  have hb := C.1.2.1
  refine lv_aload_n hx hb dL_law_1563 rfl (lv_at hl 1 rfl) ?_
  refine lv_aload_n hx hb dL_law_1564 rfl (lv_at hl 0 rfl) ?_
  refine lv_iload hx hb dL_law_1565 (lv_at hl 4 rfl) ?_
  refine lv_iconst (v := 1) hx hb dL_law_1567 (by decide) ?_
  refine lv_iadd hx hb dL_law_1568 ?_
  obtain ⟨hi1, hsp⟩ := fr_ck hsp
  refine va_sld (A := fun q => s.heap.size ≤ q) (xs := xs) hx hb hX hbl (by omega) J.2.2.2.2.2 (fh_in_vp hi1) dL_law_1569 ?_
  refine lv_aload_n hx hb dL_law_1570 rfl (lv_at hl 0 rfl) ?_
  refine lv_iload hx hb dL_law_1571 (lv_at hl 4 rfl) ?_
  refine lv_iconst (v := 2) hx hb dL_law_1573 (by decide) ?_
  refine lv_iadd hx hb dL_law_1574 ?_
  obtain ⟨hi2, hsp⟩ := fr_ck hsp
  refine va_sld (A := fun q => s.heap.size ≤ q) (xs := xs) hx hb hX hbl (by omega) J.2.2.2.2.2 (fh_in_vp hi2) dL_law_1575 ?_
  refine lv_aload_n hx hb dL_law_1576 rfl (lv_at hl 0 rfl) ?_
  refine lv_iload hx hb dL_law_1577 (lv_at hl 4 rfl) ?_
  refine lv_iconst (v := 3) hx hb dL_law_1579 (by decide) ?_
  refine lv_iadd hx hb dL_law_1580 ?_
  obtain ⟨hi3, hsp⟩ := fr_ck hsp
  refine va_sld (A := fun q => s.heap.size ≤ q) (xs := xs) hx hb hX hbl (by omega) J.2.2.2.2.2 (fh_in_vp hi3) dL_law_1581 ?_
  refine lv_aload_n hx hb dL_law_1582 rfl (lv_at hl 0 rfl) ?_
  refine lv_iload hx hb dL_law_1583 (lv_at hl 4 rfl) ?_
  refine lv_iconst (v := 4) hx hb dL_law_1585 (by decide) ?_
  refine lv_iadd hx hb dL_law_1586 ?_
  obtain ⟨hi4, hsp⟩ := fr_ck hsp
  refine va_sld (A := fun q => s.heap.size ≤ q) (xs := xs) hx hb hX hbl (by omega) J.2.2.2.2.2 (fh_in_vp hi4) dL_law_1587 ?_
  refine lv_aload_n hx hb dL_law_1588 rfl (lv_at hl 0 rfl) ?_
  refine lv_iload hx hb dL_law_1589 (lv_at hl 4 rfl) ?_
  refine lv_iconst (v := 5) hx hb dL_law_1591 (by decide) ?_
  refine lv_iadd hx hb dL_law_1592 ?_
  obtain ⟨hi5, hsp⟩ := fr_ck hsp
  refine va_sld (A := fun q => s.heap.size ≤ q) (xs := xs) hx hb hX hbl (by omega) J.2.2.2.2.2 (fh_in_vp hi5) dL_law_1593 ?_
  refine lv_aload_n hx hb dL_law_1594 rfl (lv_at hl 0 rfl) ?_
  refine lv_iload hx hb dL_law_1595 (lv_at hl 4 rfl) ?_
  refine lv_bipush (v := 6) hx hb dL_law_1597 (by decide) ?_
  refine lv_iadd hx hb dL_law_1599 ?_
  obtain ⟨hi6, hsp⟩ := fr_ck hsp
  refine va_sld (A := fun q => s.heap.size ≤ q) (xs := xs) hx hb hX hbl (by omega) J.2.2.2.2.2 (fh_in_vp hi6) dL_law_1600 ?_
  refine lv_aload_n hx hb dL_law_1601 rfl (lv_at hl 3 rfl) ?_
  obtain ⟨r7, h8, E9, hsp⟩ := fr_b2 hsp
  refine fl_cW (rest := []) C EX hN J (k_L_would C.2.2 hlt kx E9) Y_L_would YS_L_would Lk_RL_163 rfl hl.1 ⟨Nat.le_of_ble_eq_true rfl, Nat.le_of_ble_eq_true rfl⟩ rfl (Nat.le_of_ble_eq_true rfl) ⟨by show _ ≤ 601024; omega, by show _ ≤ 7293034; omega⟩ dL_law_1602 (fun H locs J => ?_)
  refine lv_istore (lv' := [(5, .int r7), (0, .ref b), (1, .ref (g.2.2 x)), (2, .ref (g2.2.2 mo)), (3, .ref (g.2.2 o)), (4, .int i)]) hx hb dL_law_1605 hl (by decide) rfl (fun ls hl => ?_)
  refine lv_aload_n hx hb dL_law_1607 rfl (lv_at hl 3 rfl) ?_
  refine lv_aload_n hx hb dL_law_1608 rfl (lv_at hl 1 rfl) ?_
  refine lv_iload hx hb dL_law_1609 (lv_at hl 5 rfl) ?_
  refine lv_iconst (v := 1) hx hb dL_law_1611 (by decide) ?_
  refine lv_iadd hx hb dL_law_1612 ?_
  refine va_sld (A := fun q => s.heap.size ≤ q) (xs := xs) hx hb hX hbl (by omega) J.2.2.2.2.2 (fh_in_vp hi1) dL_law_1613 ?_
  refine lv_aload_n hx hb dL_law_1614 rfl (lv_at hl 1 rfl) ?_
  refine lv_iload hx hb dL_law_1615 (lv_at hl 5 rfl) ?_
  refine lv_iconst (v := 2) hx hb dL_law_1617 (by decide) ?_
  refine lv_iadd hx hb dL_law_1618 ?_
  refine va_sld (A := fun q => s.heap.size ≤ q) (xs := xs) hx hb hX hbl (by omega) J.2.2.2.2.2 (fh_in_vp hi2) dL_law_1619 ?_
  refine lv_aload_n hx hb dL_law_1620 rfl (lv_at hl 1 rfl) ?_
  refine lv_iload hx hb dL_law_1621 (lv_at hl 5 rfl) ?_
  refine lv_iconst (v := 3) hx hb dL_law_1623 (by decide) ?_
  refine lv_iadd hx hb dL_law_1624 ?_
  refine va_sld (A := fun q => s.heap.size ≤ q) (xs := xs) hx hb hX hbl (by omega) J.2.2.2.2.2 (fh_in_vp hi3) dL_law_1625 ?_
  refine lv_aload_n hx hb dL_law_1626 rfl (lv_at hl 1 rfl) ?_
  refine lv_iload hx hb dL_law_1627 (lv_at hl 5 rfl) ?_
  refine lv_iconst (v := 4) hx hb dL_law_1629 (by decide) ?_
  refine lv_iadd hx hb dL_law_1630 ?_
  refine va_sld (A := fun q => s.heap.size ≤ q) (xs := xs) hx hb hX hbl (by omega) J.2.2.2.2.2 (fh_in_vp hi4) dL_law_1631 ?_
  refine lv_aload_n hx hb dL_law_1632 rfl (lv_at hl 1 rfl) ?_
  refine lv_iload hx hb dL_law_1633 (lv_at hl 5 rfl) ?_
  refine lv_iconst (v := 5) hx hb dL_law_1635 (by decide) ?_
  refine lv_iadd hx hb dL_law_1636 ?_
  refine va_sld (A := fun q => s.heap.size ≤ q) (xs := xs) hx hb hX hbl (by omega) J.2.2.2.2.2 (fh_in_vp hi5) dL_law_1637 ?_
  refine lv_aload_n hx hb dL_law_1638 rfl (lv_at hl 1 rfl) ?_
  refine lv_iload hx hb dL_law_1639 (lv_at hl 5 rfl) ?_
  refine lv_bipush (v := 6) hx hb dL_law_1641 (by decide) ?_
  refine lv_iadd hx hb dL_law_1643 ?_
  refine va_sld (A := fun q => s.heap.size ≤ q) (xs := xs) hx hb hX hbl (by omega) J.2.2.2.2.2 (fh_in_vp hi6) dL_law_1644 ?_
  obtain ⟨r10, h12, E11, hsp⟩ := fr_b2 hsp
  refine fl_cV (rest := []) (st1 := [.int r10]) C2 J.swap (k_X12_would C2.2.2 km E11) Y_X12_would YV_X12_would Lk_RL_166 km ⟨_, _, rfl, by decide⟩ rfl hl.1 ⟨Nat.le_of_ble_eq_true rfl, Nat.le_of_ble_eq_true rfl⟩ rfl (Nat.le_of_ble_eq_true rfl) ⟨by show _ ≤ 601024; omega, by show _ ≤ 7293034; omega⟩ rfl dL_law_1645 (fun H locs J => ?_)
  have J := J.swap
  refine lv_istore (lv' := [(6, .int r10), (5, .int r7), (0, .ref b), (1, .ref (g.2.2 x)), (2, .ref (g2.2.2 mo)), (3, .ref (g.2.2 o)), (4, .int i)]) hx hb dL_law_1648 hl (by decide) rfl (fun ls hl => ?_)
  refine lv_aload_n hx hb dL_law_1650 rfl (lv_at hl 4 rfl) ?_
  obtain ⟨r13, E14, hsp⟩ := fr_b1 hsp
  refine fl_cV (rest := []) (st1 := [.int r13]) C2 J.swap (k_X12_thrown C2.2.2 km E14) Y_X12_thrown YV_X12_thrown Lk_RL_89 km ⟨_, _, rfl, by decide⟩ rfl hl.1 ⟨Nat.le_of_ble_eq_true rfl, Nat.le_of_ble_eq_true rfl⟩ rfl (Nat.le_of_ble_eq_true rfl) ⟨by show _ ≤ 601024; omega, by show _ ≤ 7293034; omega⟩ rfl dL_law_1651 (fun H locs J => ?_)
  have J := J.swap
  refine lv_iload hx hb dL_law_1654 (lv_at hl 1 rfl) ?_
  refine lv_icmp_eq (tgt := 1661) hx hb dL_law_1656 (by decide) (fun c1 => ?_) (fun c1 => by rw [if_neg c1] at hsp; cases hsp)
  rw [if_pos c1] at hsp
  refine lv_iload hx hb dL_law_1661 (lv_at hl 1 rfl) ?_
  refine lv_if_ne (tgt := 1678) hx hb dL_law_1663 (by decide) (fun c1 => ?_) (fun c1 => ?_)
  · rw [if_neg c1] at hsp
    refine lv_goto (tgt := 1922) hx hb dL_law_1678 (by decide) ?_
    refine W.widen (k := cells + 8) (n := slots + 48) (by omega) (by omega) ?_
    exact hK h8 h12 _ _ _ hsp J (lv_sub hl [2, 3, 4, 5, 6] rfl)
  · rw [if_pos c1] at hsp
    refine lv_aload_n hx hb dL_law_1666 rfl (lv_at hl 5 rfl) ?_
    refine lv_iconst (v := 0) hx hb dL_law_1667 (by decide) ?_
    obtain ⟨hk15, hsp⟩ := fr_ck hsp
    obtain ⟨hi16, hsp⟩ := fr_ck hsp
    refine fr_lald C J.R hk15 hi16 dL_law_1668 ?_
    refine lv_iload hx hb dL_law_1669 (lv_at hl 0 rfl) ?_
    refine lv_i2l hx hb dL_law_1671 rfl ?_
    refine fr_lc_eq (tgt := 1678) hx hb dL_law_1672 dL_law_1673 (by decide) (fun c1 => ?_) (fun c1 => by rw [if_neg c1] at hsp; cases hsp)
    rw [if_pos c1] at hsp
    refine lv_goto (tgt := 1922) hx hb dL_law_1678 (by decide) ?_
    refine W.widen (k := cells + 8) (n := slots + 48) (by omega) (by omega) ?_
    exact hK h8 h12 _ _ _ hsp J (lv_sub hl [2, 3, 4, 5, 6] rfl)

def z_law_22 (S S2 : fh_S) (x mo o : Nat) (xs : Nat → Int32) (L : Nat) (KK : fh_H → fh_H → Option Unit) (h h2 : fh_H) (i : Int32) : Option Unit :=
    fh_ck (fh_in (i + (1 : Int32)) L) (fh_ck (fh_in (i + (2 : Int32)) L) (fh_b2 (z_L_often S h x (xs (Int32.toNatClampNeg (i + (1 : Int32)))) (xs (Int32.toNatClampNeg (i + (2 : Int32)))) o) (fun r3 h4 => fh_b2 (z_X12_often S2 h2 mo (xs (Int32.toNatClampNeg (i + (1 : Int32)))) (xs (Int32.toNatClampNeg (i + (2 : Int32))))) (fun r6 h8 => fh_b1 (z_X12_thrown S2 h8 mo) (fun r9 => if r9 = r3 then (if r3 = 0 then (fh_ck (fh_kq S o 14) (fh_ck (fh_in 0 (S.2.2 o)) (if (h4.2.1 o (Int32.toNatClampNeg 0)) = (Int32.toInt64 r6) then (KK h4 h8) else none))) else (KK h4 h8)) else none)))))
set_option maxHeartbeats 4000000 in
set_option maxRecDepth 100000 in
theorem w_law_22 {p : Program} {l : Launch} {e : Env} {s : State} {m : MethodId} {below : List Frame} {meth : Method} {c : Code} {b L : Nat} {xs : Nat → Int32} {z : (Nat → Nat) × (Nat → Nat)} {S S2 : fh_S} {g g2 : fh_G} {x mo o : Nat} {Q : State → Prop} {h h2 : fh_H} {i : Int32} {H : Heap} {locs : List Loc} {cells slots : Nat} {ls : Array Slot} {KK : fh_H → fh_H → Option Unit} (F : fl_C p l s m c b L xs z S g S2 g2 x mo) (J : fl_J s S g h S2 g2 h2 H locs) (hc : cells + 8 ≤ 601024) (hs : slots + 48 ≤ 7293034) (hl : lv_has ls 8 [(0, .ref b), (1, .ref (g.2.2 x)), (2, .ref (g2.2.2 mo)), (3, .ref (g.2.2 o)), (4, .int i)]) (hsp : z_law_22 S S2 x mo o xs L KK h h2 i = some ())
    (hK : ∀ (h h2 : fh_H) (H : Heap) (locs : List Loc) (ls : Array Slot), KK h h2 = some () → fl_J s S g h S2 g2 h2 H locs → lv_has ls 8 [(0, .ref b), (1, .ref (g.2.2 x)), (2, .ref (g2.2.2 mo)), (3, .ref (g.2.2 o)), (4, .int i)] → W p l e room_1 s m #[.ref b] below meth c H locs (cells + 8) (slots + 48) Q (F0 m 1922 ls [])) : W p l e room_1 s m #[.ref b] below meth c H locs cells slots Q (F0 m 1681 ls []) := by
  unfold z_law_22 at hsp
  obtain ⟨C, C2, EX, EX2, hN, hX, hbl, hlt, kx, km⟩ := F
  have hx := C.1.1
  have hb := C.1.2.1
  refine lv_aload_n hx hb dL_law_1681 rfl (lv_at hl 1 rfl) ?_
  refine lv_aload_n hx hb dL_law_1682 rfl (lv_at hl 0 rfl) ?_
  refine lv_iload hx hb dL_law_1683 (lv_at hl 4 rfl) ?_
  refine lv_iconst (v := 1) hx hb dL_law_1685 (by decide) ?_
  refine lv_iadd hx hb dL_law_1686 ?_
  obtain ⟨hi1, hsp⟩ := fr_ck hsp
  refine va_sld (A := fun q => s.heap.size ≤ q) (xs := xs) hx hb hX hbl (by omega) J.2.2.2.2.2 (fh_in_vp hi1) dL_law_1687 ?_
  refine lv_aload_n hx hb dL_law_1688 rfl (lv_at hl 0 rfl) ?_
  refine lv_iload hx hb dL_law_1689 (lv_at hl 4 rfl) ?_
  refine lv_iconst (v := 2) hx hb dL_law_1691 (by decide) ?_
  refine lv_iadd hx hb dL_law_1692 ?_
  obtain ⟨hi2, hsp⟩ := fr_ck hsp
  refine va_sld (A := fun q => s.heap.size ≤ q) (xs := xs) hx hb hX hbl (by omega) J.2.2.2.2.2 (fh_in_vp hi2) dL_law_1693 ?_
  refine lv_aload_n hx hb dL_law_1694 rfl (lv_at hl 3 rfl) ?_
  obtain ⟨r3, h4, E5, hsp⟩ := fr_b2 hsp
  refine fl_cW (rest := []) C EX hN J (k_L_often C.2.2 hlt kx E5) Y_L_often YS_L_often Lk_RL_167 rfl hl.1 ⟨Nat.le_of_ble_eq_true rfl, Nat.le_of_ble_eq_true rfl⟩ rfl (Nat.le_of_ble_eq_true rfl) ⟨by show _ ≤ 601024; omega, by show _ ≤ 7293034; omega⟩ dL_law_1695 (fun H locs J => ?_)
  refine lv_istore (lv' := [(5, .int r3), (0, .ref b), (1, .ref (g.2.2 x)), (2, .ref (g2.2.2 mo)), (3, .ref (g.2.2 o)), (4, .int i)]) hx hb dL_law_1698 hl (by decide) rfl (fun ls hl => ?_)
  refine lv_aload_n hx hb dL_law_1700 rfl (lv_at hl 3 rfl) ?_
  refine lv_aload_n hx hb dL_law_1701 rfl (lv_at hl 1 rfl) ?_
  refine lv_iload hx hb dL_law_1702 (lv_at hl 5 rfl) ?_
  refine lv_iconst (v := 1) hx hb dL_law_1704 (by decide) ?_
  refine lv_iadd hx hb dL_law_1705 ?_
  refine va_sld (A := fun q => s.heap.size ≤ q) (xs := xs) hx hb hX hbl (by omega) J.2.2.2.2.2 (fh_in_vp hi1) dL_law_1706 ?_
  refine lv_aload_n hx hb dL_law_1707 rfl (lv_at hl 1 rfl) ?_
  refine lv_iload hx hb dL_law_1708 (lv_at hl 5 rfl) ?_
  refine lv_iconst (v := 2) hx hb dL_law_1710 (by decide) ?_
  refine lv_iadd hx hb dL_law_1711 ?_
  refine va_sld (A := fun q => s.heap.size ≤ q) (xs := xs) hx hb hX hbl (by omega) J.2.2.2.2.2 (fh_in_vp hi2) dL_law_1712 ?_
  obtain ⟨r6, h8, E7, hsp⟩ := fr_b2 hsp
  refine fl_cV (rest := []) (st1 := [.int r6]) C2 J.swap (k_X12_often C2.2.2 km E7) Y_X12_often YV_X12_often Lk_RL_169 km ⟨_, _, rfl, by decide⟩ rfl hl.1 ⟨Nat.le_of_ble_eq_true rfl, Nat.le_of_ble_eq_true rfl⟩ rfl (Nat.le_of_ble_eq_true rfl) ⟨by show _ ≤ 601024; omega, by show _ ≤ 7293034; omega⟩ rfl dL_law_1713 (fun H locs J => ?_)
  have J := J.swap
  refine lv_istore (lv' := [(6, .int r6), (5, .int r3), (0, .ref b), (1, .ref (g.2.2 x)), (2, .ref (g2.2.2 mo)), (3, .ref (g.2.2 o)), (4, .int i)]) hx hb dL_law_1716 hl (by decide) rfl (fun ls hl => ?_)
  refine lv_aload_n hx hb dL_law_1718 rfl (lv_at hl 4 rfl) ?_
  obtain ⟨r9, E10, hsp⟩ := fr_b1 hsp
  refine fl_cV (rest := []) (st1 := [.int r9]) C2 J.swap (k_X12_thrown C2.2.2 km E10) Y_X12_thrown YV_X12_thrown Lk_RL_89 km ⟨_, _, rfl, by decide⟩ rfl hl.1 ⟨Nat.le_of_ble_eq_true rfl, Nat.le_of_ble_eq_true rfl⟩ rfl (Nat.le_of_ble_eq_true rfl) ⟨by show _ ≤ 601024; omega, by show _ ≤ 7293034; omega⟩ rfl dL_law_1719 (fun H locs J => ?_)
  have J := J.swap
  refine lv_iload hx hb dL_law_1722 (lv_at hl 1 rfl) ?_
  refine lv_icmp_eq (tgt := 1729) hx hb dL_law_1724 (by decide) (fun c1 => ?_) (fun c1 => by rw [if_neg c1] at hsp; cases hsp)
  rw [if_pos c1] at hsp
  refine lv_iload hx hb dL_law_1729 (lv_at hl 1 rfl) ?_
  refine lv_if_ne (tgt := 1746) hx hb dL_law_1731 (by decide) (fun c1 => ?_) (fun c1 => ?_)
  · rw [if_neg c1] at hsp
    refine lv_goto (tgt := 1922) hx hb dL_law_1746 (by decide) ?_
    refine W.widen (k := cells + 8) (n := slots + 48) (by omega) (by omega) ?_
    exact hK h4 h8 _ _ _ hsp J (lv_sub hl [2, 3, 4, 5, 6] rfl)
  · rw [if_pos c1] at hsp
    refine lv_aload_n hx hb dL_law_1734 rfl (lv_at hl 5 rfl) ?_
    refine lv_iconst (v := 0) hx hb dL_law_1735 (by decide) ?_
    obtain ⟨hk11, hsp⟩ := fr_ck hsp
    obtain ⟨hi12, hsp⟩ := fr_ck hsp
    refine fr_lald C J.R hk11 hi12 dL_law_1736 ?_
    refine lv_iload hx hb dL_law_1737 (lv_at hl 0 rfl) ?_
    refine lv_i2l hx hb dL_law_1739 rfl ?_
    refine fr_lc_eq (tgt := 1746) hx hb dL_law_1740 dL_law_1741 (by decide) (fun c1 => ?_) (fun c1 => by rw [if_neg c1] at hsp; cases hsp)
    rw [if_pos c1] at hsp
    refine lv_goto (tgt := 1922) hx hb dL_law_1746 (by decide) ?_
    refine W.widen (k := cells + 8) (n := slots + 48) (by omega) (by omega) ?_
    exact hK h4 h8 _ _ _ hsp J (lv_sub hl [2, 3, 4, 5, 6] rfl)

def z_law_23 (S S2 : fh_S) (x mo o : Nat) (xs : Nat → Int32) (L : Nat) (KK : fh_H → fh_H → Option Unit) (h h2 : fh_H) (i : Int32) : Option Unit :=
    fh_ck (fh_in (i + (1 : Int32)) L) (fh_ck (fh_in (i + (2 : Int32)) L) (fh_ck (fh_in (i + (3 : Int32)) L) (fh_b2 (z_L_left S h x (xs (Int32.toNatClampNeg (i + (1 : Int32)))) (xs (Int32.toNatClampNeg (i + (2 : Int32)))) (xs (Int32.toNatClampNeg (i + (3 : Int32)))) o) (fun r4 h5 => fh_b2 (z_X12_left S2 h2 mo (xs (Int32.toNatClampNeg (i + (1 : Int32)))) (xs (Int32.toNatClampNeg (i + (2 : Int32)))) (xs (Int32.toNatClampNeg (i + (3 : Int32))))) (fun r7 h9 => fh_b1 (z_X12_thrown S2 h9 mo) (fun r10 => if r10 = r4 then (if r4 = 0 then (fh_ck (fh_kq S o 14) (fh_ck (fh_in 0 (S.2.2 o)) (if (h5.2.1 o (Int32.toNatClampNeg 0)) = (Int32.toInt64 r7) then (KK h5 h9) else none))) else (KK h5 h9)) else none))))))
set_option maxHeartbeats 4000000 in
set_option maxRecDepth 100000 in
theorem w_law_23 {p : Program} {l : Launch} {e : Env} {s : State} {m : MethodId} {below : List Frame} {meth : Method} {c : Code} {b L : Nat} {xs : Nat → Int32} {z : (Nat → Nat) × (Nat → Nat)} {S S2 : fh_S} {g g2 : fh_G} {x mo o : Nat} {Q : State → Prop} {h h2 : fh_H} {i : Int32} {H : Heap} {locs : List Loc} {cells slots : Nat} {ls : Array Slot} {KK : fh_H → fh_H → Option Unit} (F : fl_C p l s m c b L xs z S g S2 g2 x mo) (J : fl_J s S g h S2 g2 h2 H locs) (hc : cells + 8 ≤ 601024) (hs : slots + 48 ≤ 7293034) (hl : lv_has ls 8 [(0, .ref b), (1, .ref (g.2.2 x)), (2, .ref (g2.2.2 mo)), (3, .ref (g.2.2 o)), (4, .int i)]) (hsp : z_law_23 S S2 x mo o xs L KK h h2 i = some ())
    (hK : ∀ (h h2 : fh_H) (H : Heap) (locs : List Loc) (ls : Array Slot), KK h h2 = some () → fl_J s S g h S2 g2 h2 H locs → lv_has ls 8 [(0, .ref b), (1, .ref (g.2.2 x)), (2, .ref (g2.2.2 mo)), (3, .ref (g.2.2 o)), (4, .int i)] → W p l e room_1 s m #[.ref b] below meth c H locs (cells + 8) (slots + 48) Q (F0 m 1922 ls [])) : W p l e room_1 s m #[.ref b] below meth c H locs cells slots Q (F0 m 1749 ls []) := by
  unfold z_law_23 at hsp
  obtain ⟨C, C2, EX, EX2, hN, hX, hbl, hlt, kx, km⟩ := F
  have hx := C.1.1
  have hb := C.1.2.1
  refine lv_aload_n hx hb dL_law_1749 rfl (lv_at hl 1 rfl) ?_
  refine lv_aload_n hx hb dL_law_1750 rfl (lv_at hl 0 rfl) ?_
  refine lv_iload hx hb dL_law_1751 (lv_at hl 4 rfl) ?_
  refine lv_iconst (v := 1) hx hb dL_law_1753 (by decide) ?_
  refine lv_iadd hx hb dL_law_1754 ?_
  obtain ⟨hi1, hsp⟩ := fr_ck hsp
  refine va_sld (A := fun q => s.heap.size ≤ q) (xs := xs) hx hb hX hbl (by omega) J.2.2.2.2.2 (fh_in_vp hi1) dL_law_1755 ?_
  refine lv_aload_n hx hb dL_law_1756 rfl (lv_at hl 0 rfl) ?_
  refine lv_iload hx hb dL_law_1757 (lv_at hl 4 rfl) ?_
  refine lv_iconst (v := 2) hx hb dL_law_1759 (by decide) ?_
  refine lv_iadd hx hb dL_law_1760 ?_
  obtain ⟨hi2, hsp⟩ := fr_ck hsp
  refine va_sld (A := fun q => s.heap.size ≤ q) (xs := xs) hx hb hX hbl (by omega) J.2.2.2.2.2 (fh_in_vp hi2) dL_law_1761 ?_
  refine lv_aload_n hx hb dL_law_1762 rfl (lv_at hl 0 rfl) ?_
  refine lv_iload hx hb dL_law_1763 (lv_at hl 4 rfl) ?_
  refine lv_iconst (v := 3) hx hb dL_law_1765 (by decide) ?_
  refine lv_iadd hx hb dL_law_1766 ?_
  obtain ⟨hi3, hsp⟩ := fr_ck hsp
  refine va_sld (A := fun q => s.heap.size ≤ q) (xs := xs) hx hb hX hbl (by omega) J.2.2.2.2.2 (fh_in_vp hi3) dL_law_1767 ?_
  refine lv_aload_n hx hb dL_law_1768 rfl (lv_at hl 3 rfl) ?_
  obtain ⟨r4, h5, E6, hsp⟩ := fr_b2 hsp
  refine fl_cW (rest := []) C EX hN J (k_L_left C.2.2 hlt kx E6) Y_L_left YS_L_left Lk_RL_170 rfl hl.1 ⟨Nat.le_of_ble_eq_true rfl, Nat.le_of_ble_eq_true rfl⟩ rfl (Nat.le_of_ble_eq_true rfl) ⟨by show _ ≤ 601024; omega, by show _ ≤ 7293034; omega⟩ dL_law_1769 (fun H locs J => ?_)
  refine lv_istore (lv' := [(5, .int r4), (0, .ref b), (1, .ref (g.2.2 x)), (2, .ref (g2.2.2 mo)), (3, .ref (g.2.2 o)), (4, .int i)]) hx hb dL_law_1772 hl (by decide) rfl (fun ls hl => ?_)
  refine lv_aload_n hx hb dL_law_1774 rfl (lv_at hl 3 rfl) ?_
  refine lv_aload_n hx hb dL_law_1775 rfl (lv_at hl 1 rfl) ?_
  refine lv_iload hx hb dL_law_1776 (lv_at hl 5 rfl) ?_
  refine lv_iconst (v := 1) hx hb dL_law_1778 (by decide) ?_
  refine lv_iadd hx hb dL_law_1779 ?_
  refine va_sld (A := fun q => s.heap.size ≤ q) (xs := xs) hx hb hX hbl (by omega) J.2.2.2.2.2 (fh_in_vp hi1) dL_law_1780 ?_
  refine lv_aload_n hx hb dL_law_1781 rfl (lv_at hl 1 rfl) ?_
  refine lv_iload hx hb dL_law_1782 (lv_at hl 5 rfl) ?_
  refine lv_iconst (v := 2) hx hb dL_law_1784 (by decide) ?_
  refine lv_iadd hx hb dL_law_1785 ?_
  refine va_sld (A := fun q => s.heap.size ≤ q) (xs := xs) hx hb hX hbl (by omega) J.2.2.2.2.2 (fh_in_vp hi2) dL_law_1786 ?_
  refine lv_aload_n hx hb dL_law_1787 rfl (lv_at hl 1 rfl) ?_
  refine lv_iload hx hb dL_law_1788 (lv_at hl 5 rfl) ?_
  refine lv_iconst (v := 3) hx hb dL_law_1790 (by decide) ?_
  refine lv_iadd hx hb dL_law_1791 ?_
  refine va_sld (A := fun q => s.heap.size ≤ q) (xs := xs) hx hb hX hbl (by omega) J.2.2.2.2.2 (fh_in_vp hi3) dL_law_1792 ?_
  obtain ⟨r7, h9, E8, hsp⟩ := fr_b2 hsp
  refine fl_cV (rest := []) (st1 := [.int r7]) C2 J.swap (k_X12_left C2.2.2 km E8) Y_X12_left YV_X12_left Lk_RL_172 km ⟨_, _, rfl, by decide⟩ rfl hl.1 ⟨Nat.le_of_ble_eq_true rfl, Nat.le_of_ble_eq_true rfl⟩ rfl (Nat.le_of_ble_eq_true rfl) ⟨by show _ ≤ 601024; omega, by show _ ≤ 7293034; omega⟩ rfl dL_law_1793 (fun H locs J => ?_)
  have J := J.swap
  refine lv_istore (lv' := [(6, .int r7), (5, .int r4), (0, .ref b), (1, .ref (g.2.2 x)), (2, .ref (g2.2.2 mo)), (3, .ref (g.2.2 o)), (4, .int i)]) hx hb dL_law_1796 hl (by decide) rfl (fun ls hl => ?_)
  refine lv_aload_n hx hb dL_law_1798 rfl (lv_at hl 4 rfl) ?_
  obtain ⟨r10, E11, hsp⟩ := fr_b1 hsp
  refine fl_cV (rest := []) (st1 := [.int r10]) C2 J.swap (k_X12_thrown C2.2.2 km E11) Y_X12_thrown YV_X12_thrown Lk_RL_89 km ⟨_, _, rfl, by decide⟩ rfl hl.1 ⟨Nat.le_of_ble_eq_true rfl, Nat.le_of_ble_eq_true rfl⟩ rfl (Nat.le_of_ble_eq_true rfl) ⟨by show _ ≤ 601024; omega, by show _ ≤ 7293034; omega⟩ rfl dL_law_1799 (fun H locs J => ?_)
  have J := J.swap
  refine lv_iload hx hb dL_law_1802 (lv_at hl 1 rfl) ?_
  refine lv_icmp_eq (tgt := 1809) hx hb dL_law_1804 (by decide) (fun c1 => ?_) (fun c1 => by rw [if_neg c1] at hsp; cases hsp)
  rw [if_pos c1] at hsp
  refine lv_iload hx hb dL_law_1809 (lv_at hl 1 rfl) ?_
  refine lv_if_ne (tgt := 1826) hx hb dL_law_1811 (by decide) (fun c1 => ?_) (fun c1 => ?_)
  · rw [if_neg c1] at hsp
    refine lv_goto (tgt := 1922) hx hb dL_law_1826 (by decide) ?_
    refine W.widen (k := cells + 8) (n := slots + 48) (by omega) (by omega) ?_
    exact hK h5 h9 _ _ _ hsp J (lv_sub hl [2, 3, 4, 5, 6] rfl)
  · rw [if_pos c1] at hsp
    refine lv_aload_n hx hb dL_law_1814 rfl (lv_at hl 5 rfl) ?_
    refine lv_iconst (v := 0) hx hb dL_law_1815 (by decide) ?_
    obtain ⟨hk12, hsp⟩ := fr_ck hsp
    obtain ⟨hi13, hsp⟩ := fr_ck hsp
    refine fr_lald C J.R hk12 hi13 dL_law_1816 ?_
    refine lv_iload hx hb dL_law_1817 (lv_at hl 0 rfl) ?_
    refine lv_i2l hx hb dL_law_1819 rfl ?_
    refine fr_lc_eq (tgt := 1826) hx hb dL_law_1820 dL_law_1821 (by decide) (fun c1 => ?_) (fun c1 => by rw [if_neg c1] at hsp; cases hsp)
    rw [if_pos c1] at hsp
    refine lv_goto (tgt := 1922) hx hb dL_law_1826 (by decide) ?_
    refine W.widen (k := cells + 8) (n := slots + 48) (by omega) (by omega) ?_
    exact hK h5 h9 _ _ _ hsp J (lv_sub hl [2, 3, 4, 5, 6] rfl)

def z_law_24 (S S2 : fh_S) (x mo o : Nat) (xs : Nat → Int32) (L : Nat) (KK : fh_H → fh_H → Option Unit) (h h2 : fh_H) (i : Int32) : Option Unit :=
    fh_ck (fh_in (i + (1 : Int32)) L) (fh_ck (fh_in (i + (2 : Int32)) L) (fh_b2 (z_L_say S h x (xs (Int32.toNatClampNeg (i + (1 : Int32)))) (xs (Int32.toNatClampNeg (i + (2 : Int32)))) o) (fun r3 h4 => fh_b2 (z_X12_say S2 h2 mo (xs (Int32.toNatClampNeg (i + (1 : Int32)))) (xs (Int32.toNatClampNeg (i + (2 : Int32))))) (fun r6 h8 => fh_b1 (z_X12_thrown S2 h8 mo) (fun r9 => if r9 = r3 then (if r3 = 0 then (fh_ck (fh_kq S o 14) (fh_ck (fh_in 0 (S.2.2 o)) (if (h4.2.1 o (Int32.toNatClampNeg 0)) = (Int32.toInt64 r6) then (KK h4 h8) else none))) else (KK h4 h8)) else none)))))
set_option maxHeartbeats 4000000 in
set_option maxRecDepth 100000 in
theorem w_law_24 {p : Program} {l : Launch} {e : Env} {s : State} {m : MethodId} {below : List Frame} {meth : Method} {c : Code} {b L : Nat} {xs : Nat → Int32} {z : (Nat → Nat) × (Nat → Nat)} {S S2 : fh_S} {g g2 : fh_G} {x mo o : Nat} {Q : State → Prop} {h h2 : fh_H} {i : Int32} {H : Heap} {locs : List Loc} {cells slots : Nat} {ls : Array Slot} {KK : fh_H → fh_H → Option Unit} (F : fl_C p l s m c b L xs z S g S2 g2 x mo) (J : fl_J s S g h S2 g2 h2 H locs) (hc : cells + 8 ≤ 601024) (hs : slots + 48 ≤ 7293034) (hl : lv_has ls 8 [(0, .ref b), (1, .ref (g.2.2 x)), (2, .ref (g2.2.2 mo)), (3, .ref (g.2.2 o)), (4, .int i)]) (hsp : z_law_24 S S2 x mo o xs L KK h h2 i = some ())
    (hK : ∀ (h h2 : fh_H) (H : Heap) (locs : List Loc) (ls : Array Slot), KK h h2 = some () → fl_J s S g h S2 g2 h2 H locs → lv_has ls 8 [(0, .ref b), (1, .ref (g.2.2 x)), (2, .ref (g2.2.2 mo)), (3, .ref (g.2.2 o)), (4, .int i)] → W p l e room_1 s m #[.ref b] below meth c H locs (cells + 8) (slots + 48) Q (F0 m 1922 ls [])) : W p l e room_1 s m #[.ref b] below meth c H locs cells slots Q (F0 m 1829 ls []) := by
  unfold z_law_24 at hsp
  obtain ⟨C, C2, EX, EX2, hN, hX, hbl, hlt, kx, km⟩ := F
  have hx := C.1.1
  have hb := C.1.2.1
  refine lv_aload_n hx hb dL_law_1829 rfl (lv_at hl 1 rfl) ?_
  refine lv_aload_n hx hb dL_law_1830 rfl (lv_at hl 0 rfl) ?_
  refine lv_iload hx hb dL_law_1831 (lv_at hl 4 rfl) ?_
  refine lv_iconst (v := 1) hx hb dL_law_1833 (by decide) ?_
  refine lv_iadd hx hb dL_law_1834 ?_
  obtain ⟨hi1, hsp⟩ := fr_ck hsp
  refine va_sld (A := fun q => s.heap.size ≤ q) (xs := xs) hx hb hX hbl (by omega) J.2.2.2.2.2 (fh_in_vp hi1) dL_law_1835 ?_
  refine lv_aload_n hx hb dL_law_1836 rfl (lv_at hl 0 rfl) ?_
  refine lv_iload hx hb dL_law_1837 (lv_at hl 4 rfl) ?_
  refine lv_iconst (v := 2) hx hb dL_law_1839 (by decide) ?_
  refine lv_iadd hx hb dL_law_1840 ?_
  obtain ⟨hi2, hsp⟩ := fr_ck hsp
  refine va_sld (A := fun q => s.heap.size ≤ q) (xs := xs) hx hb hX hbl (by omega) J.2.2.2.2.2 (fh_in_vp hi2) dL_law_1841 ?_
  refine lv_aload_n hx hb dL_law_1842 rfl (lv_at hl 3 rfl) ?_
  obtain ⟨r3, h4, E5, hsp⟩ := fr_b2 hsp
  refine fl_cW (rest := []) C EX hN J (k_L_say C.2.2 hlt kx E5) Y_L_say YS_L_say Lk_RL_173 rfl hl.1 ⟨Nat.le_of_ble_eq_true rfl, Nat.le_of_ble_eq_true rfl⟩ rfl (Nat.le_of_ble_eq_true rfl) ⟨by show _ ≤ 601024; omega, by show _ ≤ 7293034; omega⟩ dL_law_1843 (fun H locs J => ?_)
  refine lv_istore (lv' := [(5, .int r3), (0, .ref b), (1, .ref (g.2.2 x)), (2, .ref (g2.2.2 mo)), (3, .ref (g.2.2 o)), (4, .int i)]) hx hb dL_law_1846 hl (by decide) rfl (fun ls hl => ?_)
  refine lv_aload_n hx hb dL_law_1848 rfl (lv_at hl 3 rfl) ?_
  refine lv_aload_n hx hb dL_law_1849 rfl (lv_at hl 1 rfl) ?_
  refine lv_iload hx hb dL_law_1850 (lv_at hl 5 rfl) ?_
  refine lv_iconst (v := 1) hx hb dL_law_1852 (by decide) ?_
  refine lv_iadd hx hb dL_law_1853 ?_
  refine va_sld (A := fun q => s.heap.size ≤ q) (xs := xs) hx hb hX hbl (by omega) J.2.2.2.2.2 (fh_in_vp hi1) dL_law_1854 ?_
  refine lv_aload_n hx hb dL_law_1855 rfl (lv_at hl 1 rfl) ?_
  refine lv_iload hx hb dL_law_1856 (lv_at hl 5 rfl) ?_
  refine lv_iconst (v := 2) hx hb dL_law_1858 (by decide) ?_
  refine lv_iadd hx hb dL_law_1859 ?_
  refine va_sld (A := fun q => s.heap.size ≤ q) (xs := xs) hx hb hX hbl (by omega) J.2.2.2.2.2 (fh_in_vp hi2) dL_law_1860 ?_
  obtain ⟨r6, h8, E7, hsp⟩ := fr_b2 hsp
  refine fl_cV (rest := []) (st1 := [.int r6]) C2 J.swap (k_X12_say C2.2.2 km E7) Y_X12_say YV_X12_say Lk_RL_175 km ⟨_, _, rfl, by decide⟩ rfl hl.1 ⟨Nat.le_of_ble_eq_true rfl, Nat.le_of_ble_eq_true rfl⟩ rfl (Nat.le_of_ble_eq_true rfl) ⟨by show _ ≤ 601024; omega, by show _ ≤ 7293034; omega⟩ rfl dL_law_1861 (fun H locs J => ?_)
  have J := J.swap
  refine lv_istore (lv' := [(6, .int r6), (5, .int r3), (0, .ref b), (1, .ref (g.2.2 x)), (2, .ref (g2.2.2 mo)), (3, .ref (g.2.2 o)), (4, .int i)]) hx hb dL_law_1864 hl (by decide) rfl (fun ls hl => ?_)
  refine lv_aload_n hx hb dL_law_1866 rfl (lv_at hl 4 rfl) ?_
  obtain ⟨r9, E10, hsp⟩ := fr_b1 hsp
  refine fl_cV (rest := []) (st1 := [.int r9]) C2 J.swap (k_X12_thrown C2.2.2 km E10) Y_X12_thrown YV_X12_thrown Lk_RL_89 km ⟨_, _, rfl, by decide⟩ rfl hl.1 ⟨Nat.le_of_ble_eq_true rfl, Nat.le_of_ble_eq_true rfl⟩ rfl (Nat.le_of_ble_eq_true rfl) ⟨by show _ ≤ 601024; omega, by show _ ≤ 7293034; omega⟩ rfl dL_law_1867 (fun H locs J => ?_)
  have J := J.swap
  refine lv_iload hx hb dL_law_1870 (lv_at hl 1 rfl) ?_
  refine lv_icmp_eq (tgt := 1877) hx hb dL_law_1872 (by decide) (fun c1 => ?_) (fun c1 => by rw [if_neg c1] at hsp; cases hsp)
  rw [if_pos c1] at hsp
  refine lv_iload hx hb dL_law_1877 (lv_at hl 1 rfl) ?_
  refine lv_if_ne (tgt := 1894) hx hb dL_law_1879 (by decide) (fun c1 => ?_) (fun c1 => ?_)
  · rw [if_neg c1] at hsp
    refine lv_goto (tgt := 1922) hx hb dL_law_1894 (by decide) ?_
    refine W.widen (k := cells + 8) (n := slots + 48) (by omega) (by omega) ?_
    exact hK h4 h8 _ _ _ hsp J (lv_sub hl [2, 3, 4, 5, 6] rfl)
  · rw [if_pos c1] at hsp
    refine lv_aload_n hx hb dL_law_1882 rfl (lv_at hl 5 rfl) ?_
    refine lv_iconst (v := 0) hx hb dL_law_1883 (by decide) ?_
    obtain ⟨hk11, hsp⟩ := fr_ck hsp
    obtain ⟨hi12, hsp⟩ := fr_ck hsp
    refine fr_lald C J.R hk11 hi12 dL_law_1884 ?_
    refine lv_iload hx hb dL_law_1885 (lv_at hl 0 rfl) ?_
    refine lv_i2l hx hb dL_law_1887 rfl ?_
    refine fr_lc_eq (tgt := 1894) hx hb dL_law_1888 dL_law_1889 (by decide) (fun c1 => ?_) (fun c1 => by rw [if_neg c1] at hsp; cases hsp)
    rw [if_pos c1] at hsp
    refine lv_goto (tgt := 1922) hx hb dL_law_1894 (by decide) ?_
    refine W.widen (k := cells + 8) (n := slots + 48) (by omega) (by omega) ?_
    exact hK h4 h8 _ _ _ hsp J (lv_sub hl [2, 3, 4, 5, 6] rfl)

def z_law_25 (S S2 : fh_S) (x mo o : Nat) (xs : Nat → Int32) (L : Nat) (KK : fh_H → fh_H → Option Unit) (h h2 : fh_H) (i : Int32) : Option Unit :=
    fh_ck (fh_in (i + (1 : Int32)) L) (fh_b1 (z_X11_said S h x (xs (Int32.toNatClampNeg (i + (1 : Int32))))) (fun r2 => fh_b2 (z_X12_said S2 h2 mo (xs (Int32.toNatClampNeg (i + (1 : Int32))))) (fun r4 h6 => if r2 = r4 then (KK h h6) else none)))
set_option maxHeartbeats 4000000 in
set_option maxRecDepth 100000 in
theorem w_law_25 {p : Program} {l : Launch} {e : Env} {s : State} {m : MethodId} {below : List Frame} {meth : Method} {c : Code} {b L : Nat} {xs : Nat → Int32} {z : (Nat → Nat) × (Nat → Nat)} {S S2 : fh_S} {g g2 : fh_G} {x mo o : Nat} {Q : State → Prop} {h h2 : fh_H} {i : Int32} {H : Heap} {locs : List Loc} {cells slots : Nat} {ls : Array Slot} {KK : fh_H → fh_H → Option Unit} (F : fl_C p l s m c b L xs z S g S2 g2 x mo) (J : fl_J s S g h S2 g2 h2 H locs) (hc : cells + 8 ≤ 601024) (hs : slots + 48 ≤ 7293034) (hl : lv_has ls 8 [(0, .ref b), (1, .ref (g.2.2 x)), (2, .ref (g2.2.2 mo)), (3, .ref (g.2.2 o)), (4, .int i)]) (hsp : z_law_25 S S2 x mo o xs L KK h h2 i = some ())
    (hK : ∀ (h h2 : fh_H) (H : Heap) (locs : List Loc) (ls : Array Slot), KK h h2 = some () → fl_J s S g h S2 g2 h2 H locs → lv_has ls 8 [(0, .ref b), (1, .ref (g.2.2 x)), (2, .ref (g2.2.2 mo)), (3, .ref (g.2.2 o)), (4, .int i)] → W p l e room_1 s m #[.ref b] below meth c H locs (cells + 8) (slots + 48) Q (F0 m 1922 ls [])) : W p l e room_1 s m #[.ref b] below meth c H locs cells slots Q (F0 m 1897 ls []) := by
  unfold z_law_25 at hsp
  obtain ⟨C, C2, EX, EX2, hN, hX, hbl, hlt, kx, km⟩ := F
  have hx := C.1.1
  have hb := C.1.2.1
  refine lv_aload_n hx hb dL_law_1897 rfl (lv_at hl 1 rfl) ?_
  refine lv_aload_n hx hb dL_law_1898 rfl (lv_at hl 0 rfl) ?_
  refine lv_iload hx hb dL_law_1899 (lv_at hl 4 rfl) ?_
  refine lv_iconst (v := 1) hx hb dL_law_1901 (by decide) ?_
  refine lv_iadd hx hb dL_law_1902 ?_
  obtain ⟨hi1, hsp⟩ := fr_ck hsp
  refine va_sld (A := fun q => s.heap.size ≤ q) (xs := xs) hx hb hX hbl (by omega) J.2.2.2.2.2 (fh_in_vp hi1) dL_law_1903 ?_
  obtain ⟨r2, E3, hsp⟩ := fr_b1 hsp
  refine fl_cV (rest := []) (st1 := [.int r2]) C J (k_X11_said C.2.2 kx E3) Y_X11_said YV_X11_said Lk_RL_176 kx ⟨_, _, rfl, by decide⟩ rfl hl.1 ⟨Nat.le_of_ble_eq_true rfl, Nat.le_of_ble_eq_true rfl⟩ rfl (Nat.le_of_ble_eq_true rfl) ⟨by show _ ≤ 601024; omega, by show _ ≤ 7293034; omega⟩ rfl dL_law_1904 (fun H locs J => ?_)
  refine lv_aload_n hx hb dL_law_1907 rfl (lv_at hl 2 rfl) ?_
  refine lv_aload_n hx hb dL_law_1908 rfl (lv_at hl 0 rfl) ?_
  refine lv_iload hx hb dL_law_1909 (lv_at hl 4 rfl) ?_
  refine lv_iconst (v := 1) hx hb dL_law_1911 (by decide) ?_
  refine lv_iadd hx hb dL_law_1912 ?_
  refine va_sld (A := fun q => s.heap.size ≤ q) (xs := xs) hx hb hX hbl (by omega) J.2.2.2.2.2 (fh_in_vp hi1) dL_law_1913 ?_
  obtain ⟨r4, h6, E5, hsp⟩ := fr_b2 hsp
  refine fl_cV (rest := [.int r2]) (st1 := [.int r4, .int r2]) C2 J.swap (k_X12_said C2.2.2 km E5) Y_X12_said YV_X12_said Lk_RL_179 km ⟨_, _, rfl, by decide⟩ rfl hl.1 ⟨Nat.le_of_ble_eq_true rfl, Nat.le_of_ble_eq_true rfl⟩ rfl (Nat.le_of_ble_eq_true rfl) ⟨by show _ ≤ 601024; omega, by show _ ≤ 7293034; omega⟩ rfl dL_law_1914 (fun H locs J => ?_)
  have J := J.swap
  refine lv_icmp_eq (tgt := 1922) hx hb dL_law_1917 (by decide) (fun c1 => ?_) (fun c1 => by rw [if_neg c1] at hsp; cases hsp)
  rw [if_pos c1] at hsp
  refine W.widen (k := cells + 8) (n := slots + 48) (by omega) (by omega) ?_
  exact hK h h6 _ _ _ hsp J (lv_sub hl [0, 1, 2, 3, 4] rfl)
