/-! the texts' own methods, at the ten words -/
theorem Y_J0_coder_7d493 : fh_Y yJ0_coder_7d493 cJ0_coder_7d493 1 (some .byte) 0 := ⟨fh_at 586 (by decide +kernel) rfl, fh_at 19 (by decide +kernel) rfl, by decide +kernel, by decide +kernel, by decide +kernel⟩
theorem YV_J0_coder_7d493 : fh_YV yJ0_coder_7d493 := ⟨fh_at 584 (by decide +kernel) rfl, fh_at 585 (by decide +kernel) rfl⟩
theorem Y_J0_isLatin1_aae02 : fh_Y yJ0_isLatin1_aae02 cJ0_isLatin1_aae02 1 (some .boolean) 0 := ⟨fh_at 596 (by decide +kernel) rfl, fh_at 19 (by decide +kernel) rfl, by decide +kernel, by decide +kernel, by decide +kernel⟩
theorem YV_J0_isLatin1_aae02 : fh_YV yJ0_isLatin1_aae02 := ⟨fh_at 594 (by decide +kernel) rfl, fh_at 595 (by decide +kernel) rfl⟩
theorem Y_J0_length_8abf5 : fh_Y yJ0_length_8abf5 cJ0_length_8abf5 1 (some .int) 0 := ⟨fh_at 582 (by decide +kernel) rfl, fh_at 19 (by decide +kernel) rfl, by decide +kernel, by decide +kernel, by decide +kernel⟩
theorem YV_J0_length_8abf5 : fh_YV yJ0_length_8abf5 := ⟨fh_at 580 (by decide +kernel) rfl, fh_at 581 (by decide +kernel) rfl⟩
theorem Y_J3_checkIndex_8e157 : fh_Y yJ3_checkIndex_8e157 cJ3_checkIndex_8e157 3 (some .int) 3 := ⟨fh_at 607 (by decide +kernel) rfl, fh_at 21 (by decide +kernel) rfl, by decide +kernel, by decide +kernel, by decide +kernel⟩
theorem YS_J3_checkIndex_8e157 : Cond.static yJ3_checkIndex_8e157 ∈ fh_U := fh_at 606 (by decide +kernel) rfl
theorem Y_J0_checkIndex_df160 : fh_Y yJ0_checkIndex_df160 cJ0_checkIndex_df160 2 none 2 := ⟨fh_at 602 (by decide +kernel) rfl, fh_at 19 (by decide +kernel) rfl, by decide +kernel, by decide +kernel, by decide +kernel⟩
theorem YS_J0_checkIndex_df160 : Cond.static yJ0_checkIndex_df160 ∈ fh_U := fh_at 601 (by decide +kernel) rfl
theorem Y_J1_charAt_3b067 : fh_Y yJ1_charAt_3b067 cJ1_charAt_3b067 2 (some .char) 2 := ⟨fh_at 599 (by decide +kernel) rfl, fh_at 20 (by decide +kernel) rfl, by decide +kernel, by decide +kernel, by decide +kernel⟩
theorem YS_J1_charAt_3b067 : Cond.static yJ1_charAt_3b067 ∈ fh_U := fh_at 598 (by decide +kernel) rfl
theorem Y_J0_charAt_5068e : fh_Y yJ0_charAt_5068e cJ0_charAt_5068e 2 (some .char) 1 := ⟨fh_at 592 (by decide +kernel) rfl, fh_at 19 (by decide +kernel) rfl, by decide +kernel, by decide +kernel, by decide +kernel⟩
theorem YV_J0_charAt_5068e : fh_YV yJ0_charAt_5068e := ⟨fh_at 590 (by decide +kernel) rfl, fh_at 591 (by decide +kernel) rfl⟩
theorem Fs_9 : Cond.fieldLink RJ0 9 "java/lang/String" "value" "[B" ∈ fh_U := fh_at 1781 (by decide +kernel) rfl
theorem Fs_15 : Cond.fieldLink RJ0 15 "java/lang/String" "coder" "B" ∈ fh_U := fh_at 1782 (by decide +kernel) rfl
theorem Fs_38 : Cond.fieldLink RJ0 38 "java/lang/String" "COMPACT_STRINGS" "Z" ∈ fh_U := fh_at 587 (by decide +kernel) rfl
theorem Fs_1053 : Cond.fieldLink RJ0 1053 "jdk/internal/util/Preconditions" "SIOOBE_FORMATTER" "Ljava/util/function/BiFunction;" ∈ fh_U := fh_at 603 (by decide +kernel) rfl
theorem fs_rv {s : State} {H : Heap} {locs : List Loc} {S : fh_S} {g : fh_G} {z : (Nat → Nat) × (Nat → Nat)} {i : Nat} (EX : fx_E z (fh_A S g s.heap.size) s s.heap) (hS : va_S (fh_A S g s.heap.size) s.heap H locs) (hi : i < 10) : ∃ cellB : Cell, H[z.1 i]? = some cellB ∧ cellB.vm.isStatics = false ∧ s.vm.findClass "java/lang/String" = some cellB.cls := by
  obtain ⟨cell, h1, h2, h3, -⟩ := (EX.1 i hi).1.kept hS.2.1
  exact ⟨cell, h1, h2, h3⟩
theorem fs_255 (i k : Nat) : fs_c i k &&& 255 = fs_c i k := by
  have g0 : fs_t.all (fun l => l.all (fun c => decide (c &&& 255 = c))) = true := by decide +kernel
  have g1 : ∀ l ∈ fs_t, ∀ c ∈ l, c &&& 255 = c := fun l hl c hc => of_decide_eq_true (List.all_eq_true.mp (List.all_eq_true.mp g0 l hl) c hc)
  unfold fs_c
  rw [List.getD_eq_getElem?_getD]
  cases h : (fs_t.getD i [])[k]? with
  | none => show (0 : Int32) &&& 255 = 0; decide
  | some c =>
    have hm := List.mem_of_getElem? h
    rw [List.getD_eq_getElem?_getD] at hm
    cases h2 : fs_t[i]? with
    | none => rw [h2] at hm; simp at hm
    | some t => rw [h2] at hm; exact g1 t (List.mem_of_getElem? h2) c hm
theorem fs_cc (i k : Nat) : ((fs_c i k &&& 255).toUInt32 % 65536).toInt32 = fs_c i k := (sc_c2 _).trans (fs_255 i k)
theorem fs_nc (i k : Nat) : narrow .char (.int (fs_c i k)) = .int (fs_c i k) := by
  have q := sc_nar (fs_c i k)
  rw [fs_255] at q
  exact q
theorem ks_coder {l : Launch} {S : fh_S} {g : fh_G} {h : fh_H} {z : (Nat → Nat) × (Nat → Nat)} (hj : fh_inj S g) {i : Nat} (hi : i < 10) : fx_M l yJ0_coder_7d493 cJ0_coder_7d493 1 (some .byte) (fh_rm 1) S g z [.ref (z.1 i)] h (some (.int 0)) h := by
  refine fz_head (own := RJ0) (by decide +kernel) rfl hj (Nat.le_of_ble_eq_true rfl) ?_
  intro p e s m below meth c ls C EX hr hlocks hR hl
  have hl : lv_has ls 1 [(0, .ref (z.1 i))] := hl
  have hx := C.1.1
  have hb := C.1.2.1
  have hown := C.1.2.2.2.1
  have hts := C.1.2.2.2.2
  refine va_gets hx hb EX.2.1 hR.2 hown (hts _ Fs_38) (fun _ q => q) dJ0_coder_7d493_0 ?_
  refine lv_if_eq (tgt := 13) hx hb dJ0_coder_7d493_3 (by decide) (fun c1 => absurd c1 (by decide)) (fun c1 => ?_)
  refine lv_aload_n hx hb dJ0_coder_7d493_6 rfl (lv_at hl 0 rfl) ?_
  refine vk_getf hx hb (EX.1 i hi).2.1 hR.2 hown (hts _ Fs_15) (fun _ q => q) dJ0_coder_7d493_7 ?_
  refine lv_goto (tgt := 14) hx hb dJ0_coder_7d493_10 (by decide) ?_
  exact W.zret hx hb hr (by decide +kernel) (fun t ht hW => ⟨rfl, by rw [ht]; exact hR.1, hR.2.F ht⟩) hR.2.2.2 dJ0_coder_7d493_14 hlocks
theorem ks_isL {l : Launch} {S : fh_S} {g : fh_G} {h : fh_H} {z : (Nat → Nat) × (Nat → Nat)} (hj : fh_inj S g) {i : Nat} (hi : i < 10) : fx_M l yJ0_isLatin1_aae02 cJ0_isLatin1_aae02 1 (some .boolean) (fh_rm 1) S g z [.ref (z.1 i)] h (some (.int 1)) h := by
  refine fz_head (own := RJ0) (by decide +kernel) rfl hj (Nat.le_of_ble_eq_true rfl) ?_
  intro p e s m below meth c ls C EX hr hlocks hR hl
  have hl : lv_has ls 1 [(0, .ref (z.1 i))] := hl
  have hx := C.1.1
  have hb := C.1.2.1
  have hown := C.1.2.2.2.1
  have hts := C.1.2.2.2.2
  refine va_gets hx hb EX.2.1 hR.2 hown (hts _ Fs_38) (fun _ q => q) dJ0_isLatin1_aae02_0 ?_
  refine lv_if_eq (tgt := 17) hx hb dJ0_isLatin1_aae02_3 (by decide) (fun c1 => absurd c1 (by decide)) (fun c1 => ?_)
  refine lv_aload_n hx hb dJ0_isLatin1_aae02_6 rfl (lv_at hl 0 rfl) ?_
  refine vk_getf hx hb (EX.1 i hi).2.1 hR.2 hown (hts _ Fs_15) (fun _ q => q) dJ0_isLatin1_aae02_7 ?_
  refine lv_if_ne (tgt := 17) hx hb dJ0_isLatin1_aae02_10 (by decide) (fun c1 => absurd rfl c1) (fun c1 => ?_)
  refine lv_iconst (v := 1) hx hb dJ0_isLatin1_aae02_13 (by decide) ?_
  refine lv_goto (tgt := 18) hx hb dJ0_isLatin1_aae02_14 (by decide) ?_
  exact W.zret hx hb hr (by decide +kernel) (fun t ht hW => ⟨rfl, by rw [ht]; exact hR.1, hR.2.F ht⟩) hR.2.2.2 dJ0_isLatin1_aae02_18 hlocks
theorem ks_len {l : Launch} {S : fh_S} {g : fh_G} {h : fh_H} {z : (Nat → Nat) × (Nat → Nat)} (hj : fh_inj S g) {i : Nat} (hi : i < 10) : fx_M l yJ0_length_8abf5 cJ0_length_8abf5 1 (some .int) (fh_rm 2) S g z [.ref (z.1 i)] h (some (.int (Int32.ofNat (fs_n i)))) h := by
  refine fz_head (own := RJ0) (by decide +kernel) rfl hj (Nat.le_of_ble_eq_true rfl) ?_
  intro p e s m below meth c ls C EX hr hlocks hR hl
  have hl : lv_has ls 1 [(0, .ref (z.1 i))] := hl
  have hx := C.1.1
  have hb := C.1.2.1
  have hown := C.1.2.2.2.1
  have hts := C.1.2.2.2.2
  refine lv_aload_n hx hb dJ0_length_8abf5_0 rfl (lv_at hl 0 rfl) ?_
  refine vk_getf hx hb (EX.1 i hi).2.2.1 hR.2 hown (hts _ Fs_9) (fun _ q => q) dJ0_length_8abf5_1 ?_
  refine va_tlen hx hb (EX.1 i hi).2.2.2 hR.2 rfl dJ0_length_8abf5_4 ?_
  refine lv_aload_n hx hb dJ0_length_8abf5_5 rfl (lv_at hl 0 rfl) ?_
  refine fz_cV (rest := [.int (Int32.ofNat (fs_n i))]) (st1 := [.int 0, .int (Int32.ofNat (fs_n i))]) C EX hR (ks_coder C.2.2 hi) Y_J0_coder_7d493 YV_J0_coder_7d493 Lk_RJ0_335 (fs_rv EX hR.2 hi) rfl hl.1 ⟨Nat.le_of_ble_eq_true rfl, Nat.le_of_ble_eq_true rfl⟩ rfl (Nat.le_of_ble_eq_true rfl) ⟨Nat.zero_le _, Nat.zero_le _⟩ rfl dJ0_length_8abf5_6 (fun H locs hR => ?_)
  refine lv_ishr hx hb dJ0_length_8abf5_9 ?_
  rw [sb_shr0]
  exact W.iret hx hb hr (fun t ht hW => ⟨rfl, by rw [ht]; exact hR.1, hR.2.F ht⟩) hR.2.2.2 dJ0_length_8abf5_10 hlocks
theorem ks_ci3 {l : Launch} {S : fh_S} {g : fh_G} {h : fh_H} {z : (Nat → Nat) × (Nat → Nat)} (hj : fh_inj S g) {x n : Int32} {fv : Value} (hv : fv = .null ∨ ∃ t, fv = .ref t) (h0 : ¬ x < 0) (h1 : x < n) : fx_M l yJ3_checkIndex_8e157 cJ3_checkIndex_8e157 3 (some .int) (fh_rm 1) S g z [.int x, .int n, fv] h (some (.int x)) h := by
  have hc : fv.category = 1 := by rcases hv with rfl | ⟨t, rfl⟩ <;> rfl
  refine fz_head (own := RJ3) (by decide +kernel) rfl hj (by rcases hv with rfl | ⟨t, rfl⟩ <;> exact Nat.le_of_ble_eq_true rfl) ?_
  intro p e s m below meth c ls C EX hr hlocks hR hl
  have hl : lv_has ls 3 [(0, .int x), (1, .int n)] := lv_sub hl [0, 1] (by simp [lv_args, lv_pick, Value.category])
  have hx := C.1.1
  have hb := C.1.2.1
  refine lv_iload_n hx hb dJ3_checkIndex_8e157_0 rfl (lv_at hl 0 rfl) ?_
  refine lv_if_lt (tgt := 9) hx hb dJ3_checkIndex_8e157_1 (by decide) (fun c1 => absurd c1 h0) (fun c1 => ?_)
  refine lv_iload_n hx hb dJ3_checkIndex_8e157_4 rfl (lv_at hl 0 rfl) ?_
  refine lv_iload_n hx hb dJ3_checkIndex_8e157_5 rfl (lv_at hl 1 rfl) ?_
  refine lv_icmp_lt (tgt := 16) hx hb dJ3_checkIndex_8e157_6 (by decide) (fun c2 => ?_) (fun c2 => absurd h1 c2)
  refine lv_iload_n hx hb dJ3_checkIndex_8e157_16 rfl (lv_at hl 0 rfl) ?_
  exact W.iret hx hb hr (fun t ht hW => ⟨rfl, by rw [ht]; exact hR.1, hR.2.F ht⟩) hR.2.2.2 dJ3_checkIndex_8e157_17 hlocks
theorem ks_ci {l : Launch} {S : fh_S} {g : fh_G} {h : fh_H} {z : (Nat → Nat) × (Nat → Nat)} (hj : fh_inj S g) {x n : Int32} (h0 : ¬ x < 0) (h1 : x < n) : fx_M l yJ0_checkIndex_df160 cJ0_checkIndex_df160 2 none (fh_rm 2) S g z [.int x, .int n] h none h := by
  refine fz_head (own := RJ0) (by decide +kernel) rfl hj (Nat.le_of_ble_eq_true rfl) ?_
  intro p e s m below meth c ls C EX hr hlocks hR hl
  have hl : lv_has ls 2 [(0, .int x), (1, .int n)] := hl
  have hx := C.1.1
  have hb := C.1.2.1
  have hown := C.1.2.2.2.1
  have hts := C.1.2.2.2.2
  refine lv_iload_n hx hb dJ0_checkIndex_df160_0 rfl (lv_at hl 0 rfl) ?_
  refine lv_iload_n hx hb dJ0_checkIndex_df160_1 rfl (lv_at hl 1 rfl) ?_
  rcases EX.2.2.1 with hZ | ⟨t, hZ⟩
  · refine va_gets hx hb hZ hR.2 hown (hts _ Fs_1053) (fun _ q => q) dJ0_checkIndex_df160_2 ?_
    refine fz_cS (rest := []) (st1 := [.int x]) C EX hR (ks_ci3 C.2.2 (Or.inl rfl) h0 h1) Y_J3_checkIndex_8e157 YS_J3_checkIndex_8e157 Lk_RJ0_1059 rfl hl.1 ⟨Nat.le_of_ble_eq_true rfl, Nat.le_of_ble_eq_true rfl⟩ rfl (Nat.le_of_ble_eq_true rfl) ⟨Nat.zero_le _, Nat.zero_le _⟩ rfl dJ0_checkIndex_df160_5 (fun H locs hR => ?_)
    refine lv_pop hx hb dJ0_checkIndex_df160_8 rfl ?_
    exact W.vret hx hb hr (fun t ht hW => ⟨rfl, by rw [ht]; exact hR.1, hR.2.F ht⟩) hR.2.2.2 dJ0_checkIndex_df160_9 hlocks
  · refine va_gets hx hb hZ hR.2 hown (hts _ Fs_1053) (fun _ q => q) dJ0_checkIndex_df160_2 ?_
    refine fz_cS (rest := []) (st1 := [.int x]) C EX hR (ks_ci3 C.2.2 (Or.inr ⟨t, rfl⟩) h0 h1) Y_J3_checkIndex_8e157 YS_J3_checkIndex_8e157 Lk_RJ0_1059 rfl hl.1 ⟨Nat.le_of_ble_eq_true rfl, Nat.le_of_ble_eq_true rfl⟩ rfl (Nat.le_of_ble_eq_true rfl) ⟨Nat.zero_le _, Nat.zero_le _⟩ rfl dJ0_checkIndex_df160_5 (fun H locs hR => ?_)
    refine lv_pop hx hb dJ0_checkIndex_df160_8 rfl ?_
    exact W.vret hx hb hr (fun t ht hW => ⟨rfl, by rw [ht]; exact hR.1, hR.2.F ht⟩) hR.2.2.2 dJ0_checkIndex_df160_9 hlocks
theorem fs_in {x : Int32} {n : Nat} (hn : n < 2 ^ 31) (h : fh_in x n = true) : ¬ x < 0 ∧ x < Int32.ofNat n := by
  obtain ⟨j, hj, rfl⟩ := vp_in_of (fh_in_vp h) hn
  exact ⟨nI_pos (by omega), nI_lt hj hn⟩
theorem fs_ns (i : Nat) : fs_n i < 2 ^ 31 := by
  have g0 : fs_t.all (fun l => decide (l.length < 100)) = true := by decide +kernel
  unfold fs_n
  rw [List.getD_eq_getElem?_getD]
  cases h2 : fs_t[i]? with
  | none => decide
  | some t =>
    have := of_decide_eq_true (List.all_eq_true.mp g0 _ (List.mem_of_getElem? h2))
    show t.length < _
    omega
theorem ks_lat {l : Launch} {S : fh_S} {g : fh_G} {h : fh_H} {z : (Nat → Nat) × (Nat → Nat)} (hj : fh_inj S g) {i : Nat} {x : Int32} (hi : i < 10) (hin : fh_in x (fs_n i) = true) : fx_M l yJ1_charAt_3b067 cJ1_charAt_3b067 2 (some .char) (fh_rm 3) S g z [.ref (z.2 i), .int x] h (some (.int (fs_c i x.toNatClampNeg))) h := by
  refine fz_head (own := RJ1) (by decide +kernel) rfl hj (Nat.le_of_ble_eq_true rfl) ?_
  intro p e s m below meth c ls C EX hr hlocks hR hl
  have hl : lv_has ls 2 [(0, .ref (z.2 i)), (1, .int x)] := hl
  have hx := C.1.1
  have hb := C.1.2.1
  have hown := C.1.2.2.2.1
  have hts := C.1.2.2.2.2
  obtain ⟨h0, h1⟩ := fs_in (fs_ns i) hin
  refine lv_iload_n hx hb dJ1_charAt_3b067_0 rfl (lv_at hl 1 rfl) ?_
  refine lv_aload_n hx hb dJ1_charAt_3b067_1 rfl (lv_at hl 0 rfl) ?_
  refine va_tlen hx hb (EX.1 i hi).2.2.2 hR.2 rfl dJ1_charAt_3b067_2 ?_
  refine fz_cS (rest := []) (st1 := []) C EX hR (ks_ci C.2.2 h0 h1) Y_J0_checkIndex_df160 YS_J0_checkIndex_df160 Lk_RJ1_9 rfl hl.1 ⟨Nat.le_of_ble_eq_true rfl, Nat.le_of_ble_eq_true rfl⟩ rfl (Nat.le_of_ble_eq_true rfl) ⟨Nat.zero_le _, Nat.zero_le _⟩ rfl dJ1_charAt_3b067_3 (fun H locs hR => ?_)
  refine lv_aload_n hx hb dJ1_charAt_3b067_6 rfl (lv_at hl 0 rfl) ?_
  refine lv_iload_n hx hb dJ1_charAt_3b067_7 rfl (lv_at hl 1 rfl) ?_
  refine va_tb hx hb (EX.1 i hi).2.2.2 hR.2 (fh_in_vp hin) rfl dJ1_charAt_3b067_8 ?_
  refine lv_sipush (v := 255) hx hb dJ1_charAt_3b067_9 (by decide) ?_
  refine lv_iand hx hb dJ1_charAt_3b067_12 ?_
  refine lv_i2c hx hb dJ1_charAt_3b067_13 (fs_cc i x.toNatClampNeg) ?_
  exact W.zret hx hb hr (fs_nc i _) (fun t ht hW => ⟨rfl, by rw [ht]; exact hR.1, hR.2.F ht⟩) hR.2.2.2 dJ1_charAt_3b067_14 hlocks
theorem ks_ch {l : Launch} {S : fh_S} {g : fh_G} {h : fh_H} {z : (Nat → Nat) × (Nat → Nat)} (hj : fh_inj S g) {i : Nat} {x : Int32} (hi : i < 10) (hin : fh_in x (fs_n i) = true) : fx_M l yJ0_charAt_5068e cJ0_charAt_5068e 2 (some .char) (fh_rm 4) S g z [.ref (z.1 i), .int x] h (some (.int (fs_c i x.toNatClampNeg))) h := by
  refine fz_head (own := RJ0) (by decide +kernel) rfl hj (Nat.le_of_ble_eq_true rfl) ?_
  intro p e s m below meth c ls C EX hr hlocks hR hl
  have hl : lv_has ls 2 [(0, .ref (z.1 i)), (1, .int x)] := hl
  have hx := C.1.1
  have hb := C.1.2.1
  have hown := C.1.2.2.2.1
  have hts := C.1.2.2.2.2
  refine lv_aload_n hx hb dJ0_charAt_5068e_0 rfl (lv_at hl 0 rfl) ?_
  refine fz_cV (rest := []) (st1 := [.int 1]) C EX hR (ks_isL C.2.2 hi) Y_J0_isLatin1_aae02 YV_J0_isLatin1_aae02 Lk_RJ0_492 (fs_rv EX hR.2 hi) rfl hl.1 ⟨Nat.le_of_ble_eq_true rfl, Nat.le_of_ble_eq_true rfl⟩ rfl (Nat.le_of_ble_eq_true rfl) ⟨Nat.zero_le _, Nat.zero_le _⟩ rfl dJ0_charAt_5068e_1 (fun H locs hR => ?_)
  refine lv_if_eq (tgt := 16) hx hb dJ0_charAt_5068e_4 (by decide) (fun c1 => absurd c1 (by decide)) (fun c1 => ?_)
  refine lv_aload_n hx hb dJ0_charAt_5068e_7 rfl (lv_at hl 0 rfl) ?_
  refine vk_getf hx hb (EX.1 i hi).2.2.1 hR.2 hown (hts _ Fs_9) (fun _ q => q) dJ0_charAt_5068e_8 ?_
  refine lv_iload_n hx hb dJ0_charAt_5068e_11 rfl (lv_at hl 1 rfl) ?_
  refine fz_cS (rest := []) (st1 := [.int (fs_c i x.toNatClampNeg)]) C EX hR (ks_lat C.2.2 hi hin) Y_J1_charAt_3b067 YS_J1_charAt_3b067 Lk_RJ0_495 rfl hl.1 ⟨Nat.le_of_ble_eq_true rfl, Nat.le_of_ble_eq_true rfl⟩ rfl (Nat.le_of_ble_eq_true rfl) ⟨Nat.zero_le _, Nat.zero_le _⟩ rfl dJ0_charAt_5068e_12 (fun H locs hR => ?_)
  exact W.zret hx hb hr (fs_nc i _) (fun t ht hW => ⟨rfl, by rw [ht]; exact hR.1, hR.2.F ht⟩) hR.2.2.2 dJ0_charAt_5068e_15 hlocks
