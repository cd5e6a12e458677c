/-! the law's cases -/
def fl_C (p : Program) (l : Launch) (s : State) (m : MethodId) (c : Code) (b L : Nat) (xs : Nat → Int32) (z : (Nat → Nat) × (Nat → Nat)) (S : fh_S) (g : fh_G) (S2 : fh_S) (g2 : fh_G) (x mo : Nat) : Prop :=
  fh_C p m c cL_law 8 s #[.ref b] RL S g ∧ fh_C p m c cL_law 8 s #[.ref b] RL S2 g2 ∧ fx_E z (fh_A S g s.heap.size) s s.heap ∧ fx_E z (fh_A S2 g2 s.heap.size) s s.heap ∧ fl_N s ∧ va_X b L xs s s.heap ∧ b < s.heap.size ∧ l.stackTraces = false ∧ fh_kq S x 11 = true ∧ fh_kq S2 mo 12 = true
def z_law_0 (S S2 : fh_S) (x mo o : Nat) (xs : Nat → Int32) (L : Nat) (KK : fh_H → fh_H → Option Unit) (h h2 : fh_H) (i : Int32) : Option Unit :=
    fh_ck (fh_in (i + (1 : Int32)) L) (fh_ck (fh_in (i + (2 : Int32)) L) (fh_ck (fh_in (i + (3 : Int32)) L) (fh_ck (fh_in (i + (4 : Int32)) L) (fh_ck (fh_in (i + (5 : Int32)) L) (fh_b2 (z_X11_feed S h x (xs (Int32.toNatClampNeg (i + (1 : Int32)))) (xs (Int32.toNatClampNeg (i + (2 : Int32)))) (xs (Int32.toNatClampNeg (i + (3 : Int32)))) (xs (Int32.toNatClampNeg (i + (4 : Int32)))) (xs (Int32.toNatClampNeg (i + (5 : Int32))))) (fun r6 h8 => fh_b2 (z_X12_feed S2 h2 mo (xs (Int32.toNatClampNeg (i + (1 : Int32)))) (xs (Int32.toNatClampNeg (i + (2 : Int32)))) (xs (Int32.toNatClampNeg (i + (3 : Int32)))) (xs (Int32.toNatClampNeg (i + (4 : Int32)))) (xs (Int32.toNatClampNeg (i + (5 : Int32))))) (fun r9 h11 => if r6 = r9 then (KK h8 h11) else none)))))))
set_option maxHeartbeats 4000000 in
set_option maxRecDepth 100000 in
theorem w_law_0 {p : Program} {l : Launch} {e : Env} {s : State} {m : MethodId} {below : List Frame} {meth : Method} {c : Code} {b L : Nat} {xs : Nat → Int32} {z : (Nat → Nat) × (Nat → Nat)} {S S2 : fh_S} {g g2 : fh_G} {x mo o : Nat} {Q : State → Prop} {h h2 : fh_H} {i : Int32} {H : Heap} {locs : List Loc} {cells slots : Nat} {ls : Array Slot} {KK : fh_H → fh_H → Option Unit} (F : fl_C p l s m c b L xs z S g S2 g2 x mo) (J : fl_J s S g h S2 g2 h2 H locs) (hc : cells + 8 ≤ 601024) (hs : slots + 48 ≤ 7293034) (hl : lv_has ls 8 [(0, .ref b), (1, .ref (g.2.2 x)), (2, .ref (g2.2.2 mo)), (3, .ref (g.2.2 o)), (4, .int i)]) (hsp : z_law_0 S S2 x mo o xs L KK h h2 i = some ())
    (hK : ∀ (h h2 : fh_H) (H : Heap) (locs : List Loc) (ls : Array Slot), KK h h2 = some () → fl_J s S g h S2 g2 h2 H locs → lv_has ls 8 [(0, .ref b), (1, .ref (g.2.2 x)), (2, .ref (g2.2.2 mo)), (3, .ref (g.2.2 o)), (4, .int i)] → W p l e room_1 s m #[.ref b] below meth c H locs (cells + 8) (slots + 48) Q (F0 m 1922 ls [])) : W p l e room_1 s m #[.ref b] below meth c H locs cells slots Q (F0 m 160 ls []) := by
  unfold z_law_0 at hsp
  obtain ⟨C, C2, EX, EX2, hN, hX, hbl, hlt, kx, km⟩ := F
  have hx := C.1.1
  have hb := C.1.2.1
  refine lv_aload_n hx hb dL_law_160 rfl (lv_at hl 1 rfl) ?_
  refine lv_aload_n hx hb dL_law_161 rfl (lv_at hl 0 rfl) ?_
  refine lv_iload hx hb dL_law_162 (lv_at hl 4 rfl) ?_
  refine lv_iconst (v := 1) hx hb dL_law_164 (by decide) ?_
  refine lv_iadd hx hb dL_law_165 ?_
  obtain ⟨hi1, hsp⟩ := fr_ck hsp
  refine va_sld (A := fun q => s.heap.size ≤ q) (xs := xs) hx hb hX hbl (by omega) J.2.2.2.2.2 (fh_in_vp hi1) dL_law_166 ?_
  refine lv_aload_n hx hb dL_law_167 rfl (lv_at hl 0 rfl) ?_
  refine lv_iload hx hb dL_law_168 (lv_at hl 4 rfl) ?_
  refine lv_iconst (v := 2) hx hb dL_law_170 (by decide) ?_
  refine lv_iadd hx hb dL_law_171 ?_
  obtain ⟨hi2, hsp⟩ := fr_ck hsp
  refine va_sld (A := fun q => s.heap.size ≤ q) (xs := xs) hx hb hX hbl (by omega) J.2.2.2.2.2 (fh_in_vp hi2) dL_law_172 ?_
  refine lv_aload_n hx hb dL_law_173 rfl (lv_at hl 0 rfl) ?_
  refine lv_iload hx hb dL_law_174 (lv_at hl 4 rfl) ?_
  refine lv_iconst (v := 3) hx hb dL_law_176 (by decide) ?_
  refine lv_iadd hx hb dL_law_177 ?_
  obtain ⟨hi3, hsp⟩ := fr_ck hsp
  refine va_sld (A := fun q => s.heap.size ≤ q) (xs := xs) hx hb hX hbl (by omega) J.2.2.2.2.2 (fh_in_vp hi3) dL_law_178 ?_
  refine lv_aload_n hx hb dL_law_179 rfl (lv_at hl 0 rfl) ?_
  refine lv_iload hx hb dL_law_180 (lv_at hl 4 rfl) ?_
  refine lv_iconst (v := 4) hx hb dL_law_182 (by decide) ?_
  refine lv_iadd hx hb dL_law_183 ?_
  obtain ⟨hi4, hsp⟩ := fr_ck hsp
  refine va_sld (A := fun q => s.heap.size ≤ q) (xs := xs) hx hb hX hbl (by omega) J.2.2.2.2.2 (fh_in_vp hi4) dL_law_184 ?_
  refine lv_aload_n hx hb dL_law_185 rfl (lv_at hl 0 rfl) ?_
  refine lv_iload hx hb dL_law_186 (lv_at hl 4 rfl) ?_
  refine lv_iconst (v := 5) hx hb dL_law_188 (by decide) ?_
  refine lv_iadd hx hb dL_law_189 ?_
  obtain ⟨hi5, hsp⟩ := fr_ck hsp
  refine va_sld (A := fun q => s.heap.size ≤ q) (xs := xs) hx hb hX hbl (by omega) J.2.2.2.2.2 (fh_in_vp hi5) dL_law_190 ?_
  obtain ⟨r6, h8, E7, hsp⟩ := fr_b2 hsp
  refine fl_cV (rest := []) (st1 := [.int r6]) C J (k_X11_feed C.2.2 kx E7) Y_X11_feed YV_X11_feed Lk_RL_78 kx ⟨_, _, rfl, by decide⟩ rfl hl.1 ⟨Nat.le_of_ble_eq_true rfl, Nat.le_of_ble_eq_true rfl⟩ rfl (Nat.le_of_ble_eq_true rfl) ⟨by show _ ≤ 601024; omega, by show _ ≤ 7293034; omega⟩ rfl dL_law_191 (fun H locs J => ?_)
  refine lv_aload_n hx hb dL_law_194 rfl (lv_at hl 2 rfl) ?_
  refine lv_aload_n hx hb dL_law_195 rfl (lv_at hl 0 rfl) ?_
  refine lv_iload hx hb dL_law_196 (lv_at hl 4 rfl) ?_
  refine lv_iconst (v := 1) hx hb dL_law_198 (by decide) ?_
  refine lv_iadd hx hb dL_law_199 ?_
  refine va_sld (A := fun q => s.heap.size ≤ q) (xs := xs) hx hb hX hbl (by omega) J.2.2.2.2.2 (fh_in_vp hi1) dL_law_200 ?_
  refine lv_aload_n hx hb dL_law_201 rfl (lv_at hl 0 rfl) ?_
  refine lv_iload hx hb dL_law_202 (lv_at hl 4 rfl) ?_
  refine lv_iconst (v := 2) hx hb dL_law_204 (by decide) ?_
  refine lv_iadd hx hb dL_law_205 ?_
  refine va_sld (A := fun q => s.heap.size ≤ q) (xs := xs) hx hb hX hbl (by omega) J.2.2.2.2.2 (fh_in_vp hi2) dL_law_206 ?_
  refine lv_aload_n hx hb dL_law_207 rfl (lv_at hl 0 rfl) ?_
  refine lv_iload hx hb dL_law_208 (lv_at hl 4 rfl) ?_
  refine lv_iconst (v := 3) hx hb dL_law_210 (by decide) ?_
  refine lv_iadd hx hb dL_law_211 ?_
  refine va_sld (A := fun q => s.heap.size ≤ q) (xs := xs) hx hb hX hbl (by omega) J.2.2.2.2.2 (fh_in_vp hi3) dL_law_212 ?_
  refine lv_aload_n hx hb dL_law_213 rfl (lv_at hl 0 rfl) ?_
  refine lv_iload hx hb dL_law_214 (lv_at hl 4 rfl) ?_
  refine lv_iconst (v := 4) hx hb dL_law_216 (by decide) ?_
  refine lv_iadd hx hb dL_law_217 ?_
  refine va_sld (A := fun q => s.heap.size ≤ q) (xs := xs) hx hb hX hbl (by omega) J.2.2.2.2.2 (fh_in_vp hi4) dL_law_218 ?_
  refine lv_aload_n hx hb dL_law_219 rfl (lv_at hl 0 rfl) ?_
  refine lv_iload hx hb dL_law_220 (lv_at hl 4 rfl) ?_
  refine lv_iconst (v := 5) hx hb dL_law_222 (by decide) ?_
  refine lv_iadd hx hb dL_law_223 ?_
  refine va_sld (A := fun q => s.heap.size ≤ q) (xs := xs) hx hb hX hbl (by omega) J.2.2.2.2.2 (fh_in_vp hi5) dL_law_224 ?_
  obtain ⟨r9, h11, E10, hsp⟩ := fr_b2 hsp
  refine fl_cV (rest := [.int r6]) (st1 := [.int r9, .int r6]) C2 J.swap (k_X12_feed C2.2.2 km E10) Y_X12_feed YV_X12_feed Lk_RL_82 km ⟨_, _, rfl, by decide⟩ rfl hl.1 ⟨Nat.le_of_ble_eq_true rfl, Nat.le_of_ble_eq_true rfl⟩ rfl (Nat.le_of_ble_eq_true rfl) ⟨by show _ ≤ 601024; omega, by show _ ≤ 7293034; omega⟩ rfl dL_law_225 (fun H locs J => ?_)
  have J := J.swap
  refine lv_icmp_eq (tgt := 1922) hx hb dL_law_228 (by decide) (fun c1 => ?_) (fun c1 => by rw [if_neg c1] at hsp; cases hsp)
  rw [if_pos c1] at hsp
  refine W.widen (k := cells + 8) (n := slots + 48) (by omega) (by omega) ?_
  exact hK h8 h11 _ _ _ hsp J (lv_sub hl [0, 1, 2, 3, 4] rfl)

def z_law_1 (S S2 : fh_S) (x mo o : Nat) (xs : Nat → Int32) (L : Nat) (KK : fh_H → fh_H → Option Unit) (h h2 : fh_H) (i : Int32) : Option Unit :=
    fh_ck (fh_in (i + (1 : Int32)) L) (fh_ck (fh_in (i + (2 : Int32)) L) (fh_b2 (z_L_told S h x (xs (Int32.toNatClampNeg (i + (1 : Int32)))) (xs (Int32.toNatClampNeg (i + (2 : Int32)))) o) (fun r3 h4 => fh_b2 (z_X12_told S2 h2 mo (xs (Int32.toNatClampNeg (i + (1 : Int32)))) (xs (Int32.toNatClampNeg (i + (2 : Int32))))) (fun r6 h8 => fh_b1 (z_X12_thrown S2 h8 mo) (fun r9 => if r9 = r3 then (if r3 = 0 then (fh_ck (fh_kq S o 14) (fh_ck (fh_in 0 (S.2.2 o)) (if (h4.2.1 o (Int32.toNatClampNeg 0)) = (Int32.toInt64 r6) then (KK h4 h8) else none))) else (KK h4 h8)) else none)))))
set_option maxHeartbeats 4000000 in
set_option maxRecDepth 100000 in
theorem w_law_1 {p : Program} {l : Launch} {e : Env} {s : State} {m : MethodId} {below : List Frame} {meth : Method} {c : Code} {b L : Nat} {xs : Nat → Int32} {z : (Nat → Nat) × (Nat → Nat)} {S S2 : fh_S} {g g2 : fh_G} {x mo o : Nat} {Q : State → Prop} {h h2 : fh_H} {i : Int32} {H : Heap} {locs : List Loc} {cells slots : Nat} {ls : Array Slot} {KK : fh_H → fh_H → Option Unit} (F : fl_C p l s m c b L xs z S g S2 g2 x mo) (J : fl_J s S g h S2 g2 h2 H locs) (hc : cells + 8 ≤ 601024) (hs : slots + 48 ≤ 7293034) (hl : lv_has ls 8 [(0, .ref b), (1, .ref (g.2.2 x)), (2, .ref (g2.2.2 mo)), (3, .ref (g.2.2 o)), (4, .int i)]) (hsp : z_law_1 S S2 x mo o xs L KK h h2 i = some ())
    (hK : ∀ (h h2 : fh_H) (H : Heap) (locs : List Loc) (ls : Array Slot), KK h h2 = some () → fl_J s S g h S2 g2 h2 H locs → lv_has ls 8 [(0, .ref b), (1, .ref (g.2.2 x)), (2, .ref (g2.2.2 mo)), (3, .ref (g.2.2 o)), (4, .int i)] → W p l e room_1 s m #[.ref b] below meth c H locs (cells + 8) (slots + 48) Q (F0 m 1922 ls [])) : W p l e room_1 s m #[.ref b] below meth c H locs cells slots Q (F0 m 233 ls []) := by
  unfold z_law_1 at hsp
  obtain ⟨C, C2, EX, EX2, hN, hX, hbl, hlt, kx, km⟩ := F
  have hx := C.1.1
  have hb := C.1.2.1
  refine lv_aload_n hx hb dL_law_233 rfl (lv_at hl 1 rfl) ?_
  refine lv_aload_n hx hb dL_law_234 rfl (lv_at hl 0 rfl) ?_
  refine lv_iload hx hb dL_law_235 (lv_at hl 4 rfl) ?_
  refine lv_iconst (v := 1) hx hb dL_law_237 (by decide) ?_
  refine lv_iadd hx hb dL_law_238 ?_
  obtain ⟨hi1, hsp⟩ := fr_ck hsp
  refine va_sld (A := fun q => s.heap.size ≤ q) (xs := xs) hx hb hX hbl (by omega) J.2.2.2.2.2 (fh_in_vp hi1) dL_law_239 ?_
  refine lv_aload_n hx hb dL_law_240 rfl (lv_at hl 0 rfl) ?_
  refine lv_iload hx hb dL_law_241 (lv_at hl 4 rfl) ?_
  refine lv_iconst (v := 2) hx hb dL_law_243 (by decide) ?_
  refine lv_iadd hx hb dL_law_244 ?_
  obtain ⟨hi2, hsp⟩ := fr_ck hsp
  refine va_sld (A := fun q => s.heap.size ≤ q) (xs := xs) hx hb hX hbl (by omega) J.2.2.2.2.2 (fh_in_vp hi2) dL_law_245 ?_
  refine lv_aload_n hx hb dL_law_246 rfl (lv_at hl 3 rfl) ?_
  obtain ⟨r3, h4, E5, hsp⟩ := fr_b2 hsp
  refine fl_cW (rest := []) C EX hN J (k_L_told C.2.2 hlt kx E5) Y_L_told YS_L_told Lk_RL_83 rfl hl.1 ⟨Nat.le_of_ble_eq_true rfl, Nat.le_of_ble_eq_true rfl⟩ rfl (Nat.le_of_ble_eq_true rfl) ⟨by show _ ≤ 601024; omega, by show _ ≤ 7293034; omega⟩ dL_law_247 (fun H locs J => ?_)
  refine lv_istore (lv' := [(5, .int r3), (0, .ref b), (1, .ref (g.2.2 x)), (2, .ref (g2.2.2 mo)), (3, .ref (g.2.2 o)), (4, .int i)]) hx hb dL_law_250 hl (by decide) rfl (fun ls hl => ?_)
  refine lv_aload_n hx hb dL_law_252 rfl (lv_at hl 3 rfl) ?_
  refine lv_aload_n hx hb dL_law_253 rfl (lv_at hl 1 rfl) ?_
  refine lv_iload hx hb dL_law_254 (lv_at hl 5 rfl) ?_
  refine lv_iconst (v := 1) hx hb dL_law_256 (by decide) ?_
  refine lv_iadd hx hb dL_law_257 ?_
  refine va_sld (A := fun q => s.heap.size ≤ q) (xs := xs) hx hb hX hbl (by omega) J.2.2.2.2.2 (fh_in_vp hi1) dL_law_258 ?_
  refine lv_aload_n hx hb dL_law_259 rfl (lv_at hl 1 rfl) ?_
  refine lv_iload hx hb dL_law_260 (lv_at hl 5 rfl) ?_
  refine lv_iconst (v := 2) hx hb dL_law_262 (by decide) ?_
  refine lv_iadd hx hb dL_law_263 ?_
  refine va_sld (A := fun q => s.heap.size ≤ q) (xs := xs) hx hb hX hbl (by omega) J.2.2.2.2.2 (fh_in_vp hi2) dL_law_264 ?_
  obtain ⟨r6, h8, E7, hsp⟩ := fr_b2 hsp
  refine fl_cV (rest := []) (st1 := [.int r6]) C2 J.swap (k_X12_told C2.2.2 km E7) Y_X12_told YV_X12_told Lk_RL_88 km ⟨_, _, rfl, by decide⟩ rfl hl.1 ⟨Nat.le_of_ble_eq_true rfl, Nat.le_of_ble_eq_true rfl⟩ rfl (Nat.le_of_ble_eq_true rfl) ⟨by show _ ≤ 601024; omega, by show _ ≤ 7293034; omega⟩ rfl dL_law_265 (fun H locs J => ?_)
  have J := J.swap
  refine lv_istore (lv' := [(6, .int r6), (5, .int r3), (0, .ref b), (1, .ref (g.2.2 x)), (2, .ref (g2.2.2 mo)), (3, .ref (g.2.2 o)), (4, .int i)]) hx hb dL_law_268 hl (by decide) rfl (fun ls hl => ?_)
  refine lv_aload_n hx hb dL_law_270 rfl (lv_at hl 4 rfl) ?_
  obtain ⟨r9, E10, hsp⟩ := fr_b1 hsp
  refine fl_cV (rest := []) (st1 := [.int r9]) C2 J.swap (k_X12_thrown C2.2.2 km E10) Y_X12_thrown YV_X12_thrown Lk_RL_89 km ⟨_, _, rfl, by decide⟩ rfl hl.1 ⟨Nat.le_of_ble_eq_true rfl, Nat.le_of_ble_eq_true rfl⟩ rfl (Nat.le_of_ble_eq_true rfl) ⟨by show _ ≤ 601024; omega, by show _ ≤ 7293034; omega⟩ rfl dL_law_271 (fun H locs J => ?_)
  have J := J.swap
  refine lv_iload hx hb dL_law_274 (lv_at hl 1 rfl) ?_
  refine lv_icmp_eq (tgt := 281) hx hb dL_law_276 (by decide) (fun c1 => ?_) (fun c1 => by rw [if_neg c1] at hsp; cases hsp)
  rw [if_pos c1] at hsp
  refine lv_iload hx hb dL_law_281 (lv_at hl 1 rfl) ?_
  refine lv_if_ne (tgt := 298) hx hb dL_law_283 (by decide) (fun c1 => ?_) (fun c1 => ?_)
  · rw [if_neg c1] at hsp
    refine lv_goto (tgt := 1922) hx hb dL_law_298 (by decide) ?_
    refine W.widen (k := cells + 8) (n := slots + 48) (by omega) (by omega) ?_
    exact hK h4 h8 _ _ _ hsp J (lv_sub hl [2, 3, 4, 5, 6] rfl)
  · rw [if_pos c1] at hsp
    refine lv_aload_n hx hb dL_law_286 rfl (lv_at hl 5 rfl) ?_
    refine lv_iconst (v := 0) hx hb dL_law_287 (by decide) ?_
    obtain ⟨hk11, hsp⟩ := fr_ck hsp
    obtain ⟨hi12, hsp⟩ := fr_ck hsp
    refine fr_lald C J.R hk11 hi12 dL_law_288 ?_
    refine lv_iload hx hb dL_law_289 (lv_at hl 0 rfl) ?_
    refine lv_i2l hx hb dL_law_291 rfl ?_
    refine fr_lc_eq (tgt := 298) hx hb dL_law_292 dL_law_293 (by decide) (fun c1 => ?_) (fun c1 => by rw [if_neg c1] at hsp; cases hsp)
    rw [if_pos c1] at hsp
    refine lv_goto (tgt := 1922) hx hb dL_law_298 (by decide) ?_
    refine W.widen (k := cells + 8) (n := slots + 48) (by omega) (by omega) ?_
    exact hK h4 h8 _ _ _ hsp J (lv_sub hl [2, 3, 4, 5, 6] rfl)

def z_law_2 (S S2 : fh_S) (x mo o : Nat) (xs : Nat → Int32) (L : Nat) (KK : fh_H → fh_H → Option Unit) (h h2 : fh_H) (i : Int32) : Option Unit :=
    fh_ck (fh_in (i + (1 : Int32)) L) (fh_ck (fh_in (i + (2 : Int32)) L) (fh_b2 (z_L_ask S h x (xs (Int32.toNatClampNeg (i + (1 : Int32)))) (xs (Int32.toNatClampNeg (i + (2 : Int32)))) o) (fun r3 h4 => fh_b2 (z_X12_ask S2 h2 mo (xs (Int32.toNatClampNeg (i + (1 : Int32)))) (xs (Int32.toNatClampNeg (i + (2 : Int32))))) (fun r6 h8 => fh_b1 (z_X12_thrown S2 h8 mo) (fun r9 => if r9 = r3 then (if r3 = 0 then (fh_ck (fh_kq S o 14) (fh_ck (fh_in 0 (S.2.2 o)) (if (h4.2.1 o (Int32.toNatClampNeg 0)) = (Int32.toInt64 r6) then (KK h4 h8) else none))) else (KK h4 h8)) else none)))))
set_option maxHeartbeats 4000000 in
set_option maxRecDepth 100000 in
theorem w_law_2 {p : Program} {l : Launch} {e : Env} {s : State} {m : MethodId} {below : List Frame} {meth : Method} {c : Code} {b L : Nat} {xs : Nat → Int32} {z : (Nat → Nat) × (Nat → Nat)} {S S2 : fh_S} {g g2 : fh_G} {x mo o : Nat} {Q : State → Prop} {h h2 : fh_H} {i : Int32} {H : Heap} {locs : List Loc} {cells slots : Nat} {ls : Array Slot} {KK : fh_H → fh_H → Option Unit} (F : fl_C p l s m c b L xs z S g S2 g2 x mo) (J : fl_J s S g h S2 g2 h2 H locs) (hc : cells + 8 ≤ 601024) (hs : slots + 48 ≤ 7293034) (hl : lv_has ls 8 [(0, .ref b), (1, .ref (g.2.2 x)), (2, .ref (g2.2.2 mo)), (3, .ref (g.2.2 o)), (4, .int i)]) (hsp : z_law_2 S S2 x mo o xs L KK h h2 i = some ())
    (hK : ∀ (h h2 : fh_H) (H : Heap) (locs : List Loc) (ls : Array Slot), KK h h2 = some () → fl_J s S g h S2 g2 h2 H locs → lv_has ls 8 [(0, .ref b), (1, .ref (g.2.2 x)), (2, .ref (g2.2.2 mo)), (3, .ref (g.2.2 o)), (4, .int i)] → W p l e room_1 s m #[.ref b] below meth c H locs (cells + 8) (slots + 48) Q (F0 m 1922 ls [])) : W p l e room_1 s m #[.ref b] below meth c H locs cells slots Q (F0 m 301 ls []) := by
  unfold z_law_2 at hsp
  obtain ⟨C, C2, EX, EX2, hN, hX, hbl, hlt, kx, km⟩ := F
  have hx := C.1.1
  have hb := C.1.2.1
  refine lv_aload_n hx hb dL_law_301 rfl (lv_at hl 1 rfl) ?_
  refine lv_aload_n hx hb dL_law_302 rfl (lv_at hl 0 rfl) ?_
  refine lv_iload hx hb dL_law_303 (lv_at hl 4 rfl) ?_
  refine lv_iconst (v := 1) hx hb dL_law_305 (by decide) ?_
  refine lv_iadd hx hb dL_law_306 ?_
  obtain ⟨hi1, hsp⟩ := fr_ck hsp
  refine va_sld (A := fun q => s.heap.size ≤ q) (xs := xs) hx hb hX hbl (by omega) J.2.2.2.2.2 (fh_in_vp hi1) dL_law_307 ?_
  refine lv_aload_n hx hb dL_law_308 rfl (lv_at hl 0 rfl) ?_
  refine lv_iload hx hb dL_law_309 (lv_at hl 4 rfl) ?_
  refine lv_iconst (v := 2) hx hb dL_law_311 (by decide) ?_
  refine lv_iadd hx hb dL_law_312 ?_
  obtain ⟨hi2, hsp⟩ := fr_ck hsp
  refine va_sld (A := fun q => s.heap.size ≤ q) (xs := xs) hx hb hX hbl (by omega) J.2.2.2.2.2 (fh_in_vp hi2) dL_law_313 ?_
  refine lv_aload_n hx hb dL_law_314 rfl (lv_at hl 3 rfl) ?_
  obtain ⟨r3, h4, E5, hsp⟩ := fr_b2 hsp
  refine fl_cW (rest := []) C EX hN J (k_L_ask C.2.2 hlt kx E5) Y_L_ask YS_L_ask Lk_RL_93 rfl hl.1 ⟨Nat.le_of_ble_eq_true rfl, Nat.le_of_ble_eq_true rfl⟩ rfl (Nat.le_of_ble_eq_true rfl) ⟨by show _ ≤ 601024; omega, by show _ ≤ 7293034; omega⟩ dL_law_315 (fun H locs J => ?_)
  refine lv_istore (lv' := [(5, .int r3), (0, .ref b), (1, .ref (g.2.2 x)), (2, .ref (g2.2.2 mo)), (3, .ref (g.2.2 o)), (4, .int i)]) hx hb dL_law_318 hl (by decide) rfl (fun ls hl => ?_)
  refine lv_aload_n hx hb dL_law_320 rfl (lv_at hl 3 rfl) ?_
  refine lv_aload_n hx hb dL_law_321 rfl (lv_at hl 1 rfl) ?_
  refine lv_iload hx hb dL_law_322 (lv_at hl 5 rfl) ?_
  refine lv_iconst (v := 1) hx hb dL_law_324 (by decide) ?_
  refine lv_iadd hx hb dL_law_325 ?_
  refine va_sld (A := fun q => s.heap.size ≤ q) (xs := xs) hx hb hX hbl (by omega) J.2.2.2.2.2 (fh_in_vp hi1) dL_law_326 ?_
  refine lv_aload_n hx hb dL_law_327 rfl (lv_at hl 1 rfl) ?_
  refine lv_iload hx hb dL_law_328 (lv_at hl 5 rfl) ?_
  refine lv_iconst (v := 2) hx hb dL_law_330 (by decide) ?_
  refine lv_iadd hx hb dL_law_331 ?_
  refine va_sld (A := fun q => s.heap.size ≤ q) (xs := xs) hx hb hX hbl (by omega) J.2.2.2.2.2 (fh_in_vp hi2) dL_law_332 ?_
  obtain ⟨r6, h8, E7, hsp⟩ := fr_b2 hsp
  refine fl_cX (rest := []) (st1 := [.int r6]) C2 EX2 J.swap (k_X12_ask C2.2.2 km E7) Y_X12_ask YV_X12_ask Lk_RL_95 km ⟨_, _, rfl, by decide⟩ rfl hl.1 ⟨Nat.le_of_ble_eq_true rfl, Nat.le_of_ble_eq_true rfl⟩ rfl (Nat.le_of_ble_eq_true rfl) ⟨by show _ ≤ 601024; omega, by show _ ≤ 7293034; omega⟩ rfl dL_law_333 (fun H locs J => ?_)
  have J := J.swap
  refine lv_istore (lv' := [(6, .int r6), (5, .int r3), (0, .ref b), (1, .ref (g.2.2 x)), (2, .ref (g2.2.2 mo)), (3, .ref (g.2.2 o)), (4, .int i)]) hx hb dL_law_336 hl (by decide) rfl (fun ls hl => ?_)
  refine lv_aload_n hx hb dL_law_338 rfl (lv_at hl 4 rfl) ?_
  obtain ⟨r9, E10, hsp⟩ := fr_b1 hsp
  refine fl_cV (rest := []) (st1 := [.int r9]) C2 J.swap (k_X12_thrown C2.2.2 km E10) Y_X12_thrown YV_X12_thrown Lk_RL_89 km ⟨_, _, rfl, by decide⟩ rfl hl.1 ⟨Nat.le_of_ble_eq_true rfl, Nat.le_of_ble_eq_true rfl⟩ rfl (Nat.le_of_ble_eq_true rfl) ⟨by show _ ≤ 601024; omega, by show _ ≤ 7293034; omega⟩ rfl dL_law_339 (fun H locs J => ?_)
  have J := J.swap
  refine lv_iload hx hb dL_law_342 (lv_at hl 1 rfl) ?_
  refine lv_icmp_eq (tgt := 349) hx hb dL_law_344 (by decide) (fun c1 => ?_) (fun c1 => by rw [if_neg c1] at hsp; cases hsp)
  rw [if_pos c1] at hsp
  refine lv_iload hx hb dL_law_349 (lv_at hl 1 rfl) ?_
  refine lv_if_ne (tgt := 366) hx hb dL_law_351 (by decide) (fun c1 => ?_) (fun c1 => ?_)
  · rw [if_neg c1] at hsp
    refine lv_goto (tgt := 1922) hx hb dL_law_366 (by decide) ?_
    refine W.widen (k := cells + 8) (n := slots + 48) (by omega) (by omega) ?_
    exact hK h4 h8 _ _ _ hsp J (lv_sub hl [2, 3, 4, 5, 6] rfl)
  · rw [if_pos c1] at hsp
    refine lv_aload_n hx hb dL_law_354 rfl (lv_at hl 5 rfl) ?_
    refine lv_iconst (v := 0) hx hb dL_law_355 (by decide) ?_
    obtain ⟨hk11, hsp⟩ := fr_ck hsp
    obtain ⟨hi12, hsp⟩ := fr_ck hsp
    refine fr_lald C J.R hk11 hi12 dL_law_356 ?_
    refine lv_iload hx hb dL_law_357 (lv_at hl 0 rfl) ?_
    refine lv_i2l hx hb dL_law_359 rfl ?_
    refine fr_lc_eq (tgt := 366) hx hb dL_law_360 dL_law_361 (by decide) (fun c1 => ?_) (fun c1 => by rw [if_neg c1] at hsp; cases hsp)
    rw [if_pos c1] at hsp
    refine lv_goto (tgt := 1922) hx hb dL_law_366 (by decide) ?_
    refine W.widen (k := cells + 8) (n := slots + 48) (by omega) (by omega) ?_
    exact hK h4 h8 _ _ _ hsp J (lv_sub hl [2, 3, 4, 5, 6] rfl)

def z_law_3 (S S2 : fh_S) (x mo o : Nat) (xs : Nat → Int32) (L : Nat) (KK : fh_H → fh_H → Option Unit) (h h2 : fh_H) (i : Int32) : Option Unit :=
    fh_b1 (z_X11_fault S h x) (fun r1 => fh_b2 (z_X12_fault S2 h2 mo) (fun r3 h5 => if r1 = r3 then (KK h h5) else none))
set_option maxHeartbeats 4000000 in
set_option maxRecDepth 100000 in
theorem w_law_3 {p : Program} {l : Launch} {e : Env} {s : State} {m : MethodId} {below : List Frame} {meth : Method} {c : Code} {b L : Nat} {xs : Nat → Int32} {z : (Nat → Nat) × (Nat → Nat)} {S S2 : fh_S} {g g2 : fh_G} {x mo o : Nat} {Q : State → Prop} {h h2 : fh_H} {i : Int32} {H : Heap} {locs : List Loc} {cells slots : Nat} {ls : Array Slot} {KK : fh_H → fh_H → Option Unit} (F : fl_C p l s m c b L xs z S g S2 g2 x mo) (J : fl_J s S g h S2 g2 h2 H locs) (hc : cells + 8 ≤ 601024) (hs : slots + 48 ≤ 7293034) (hl : lv_has ls 8 [(0, .ref b), (1, .ref (g.2.2 x)), (2, .ref (g2.2.2 mo)), (3, .ref (g.2.2 o)), (4, .int i)]) (hsp : z_law_3 S S2 x mo o xs L KK h h2 i = some ())
    (hK : ∀ (h h2 : fh_H) (H : Heap) (locs : List Loc) (ls : Array Slot), KK h h2 = some () → fl_J s S g h S2 g2 h2 H locs → lv_has ls 8 [(0, .ref b), (1, .ref (g.2.2 x)), (2, .ref (g2.2.2 mo)), (3, .ref (g.2.2 o)), (4, .int i)] → W p l e room_1 s m #[.ref b] below meth c H locs (cells + 8) (slots + 48) Q (F0 m 1922 ls [])) : W p l e room_1 s m #[.ref b] below meth c H locs cells slots Q (F0 m 369 ls []) := by
  unfold z_law_3 at hsp
  obtain ⟨C, C2, EX, EX2, hN, hX, hbl, hlt, kx, km⟩ := F
  have hx := C.1.1
  have hb := C.1.2.1
  refine lv_aload_n hx hb dL_law_369 rfl (lv_at hl 1 rfl) ?_
  obtain ⟨r1, E2, hsp⟩ := fr_b1 hsp
  refine fl_cV (rest := []) (st1 := [.int r1]) C J (k_X11_fault C.2.2 kx E2) Y_X11_fault YV_X11_fault Lk_RL_96 kx ⟨_, _, rfl, by decide⟩ rfl hl.1 ⟨Nat.le_of_ble_eq_true rfl, Nat.le_of_ble_eq_true rfl⟩ rfl (Nat.le_of_ble_eq_true rfl) ⟨by show _ ≤ 601024; omega, by show _ ≤ 7293034; omega⟩ rfl dL_law_370 (fun H locs J => ?_)
  refine lv_aload_n hx hb dL_law_373 rfl (lv_at hl 2 rfl) ?_
  obtain ⟨r3, h5, E4, hsp⟩ := fr_b2 hsp
  refine fl_cV (rest := [.int r1]) (st1 := [.int r3, .int r1]) C2 J.swap (k_X12_fault C2.2.2 km E4) Y_X12_fault YV_X12_fault Lk_RL_99 km ⟨_, _, rfl, by decide⟩ rfl hl.1 ⟨Nat.le_of_ble_eq_true rfl, Nat.le_of_ble_eq_true rfl⟩ rfl (Nat.le_of_ble_eq_true rfl) ⟨by show _ ≤ 601024; omega, by show _ ≤ 7293034; omega⟩ rfl dL_law_374 (fun H locs J => ?_)
  have J := J.swap
  refine lv_icmp_eq (tgt := 1922) hx hb dL_law_377 (by decide) (fun c1 => ?_) (fun c1 => by rw [if_neg c1] at hsp; cases hsp)
  rw [if_pos c1] at hsp
  refine W.widen (k := cells + 8) (n := slots + 48) (by omega) (by omega) ?_
  exact hK h h5 _ _ _ hsp J (lv_sub hl [0, 1, 2, 3, 4] rfl)

def z_law_4 (S S2 : fh_S) (x mo o : Nat) (xs : Nat → Int32) (L : Nat) (KK : fh_H → fh_H → Option Unit) (h h2 : fh_H) (i : Int32) : Option Unit :=
    fh_ck (fh_in (i + (1 : Int32)) L) (fh_ck (fh_in (i + (2 : Int32)) L) (fh_ck (fh_in (i + (3 : Int32)) L) (fh_b2 (z_X11_fraction S h x (xs (Int32.toNatClampNeg (i + (1 : Int32)))) (xs (Int32.toNatClampNeg (i + (2 : Int32)))) (xs (Int32.toNatClampNeg (i + (3 : Int32))))) (fun r4 h6 => fh_b2 (z_X12_fraction S2 h2 mo (xs (Int32.toNatClampNeg (i + (1 : Int32)))) (xs (Int32.toNatClampNeg (i + (2 : Int32)))) (xs (Int32.toNatClampNeg (i + (3 : Int32))))) (fun r7 h9 => if r4 = r7 then (KK h6 h9) else none)))))
set_option maxHeartbeats 4000000 in
set_option maxRecDepth 100000 in
theorem w_law_4 {p : Program} {l : Launch} {e : Env} {s : State} {m : MethodId} {below : List Frame} {meth : Method} {c : Code} {b L : Nat} {xs : Nat → Int32} {z : (Nat → Nat) × (Nat → Nat)} {S S2 : fh_S} {g g2 : fh_G} {x mo o : Nat} {Q : State → Prop} {h h2 : fh_H} {i : Int32} {H : Heap} {locs : List Loc} {cells slots : Nat} {ls : Array Slot} {KK : fh_H → fh_H → Option Unit} (F : fl_C p l s m c b L xs z S g S2 g2 x mo) (J : fl_J s S g h S2 g2 h2 H locs) (hc : cells + 8 ≤ 601024) (hs : slots + 48 ≤ 7293034) (hl : lv_has ls 8 [(0, .ref b), (1, .ref (g.2.2 x)), (2, .ref (g2.2.2 mo)), (3, .ref (g.2.2 o)), (4, .int i)]) (hsp : z_law_4 S S2 x mo o xs L KK h h2 i = some ())
    (hK : ∀ (h h2 : fh_H) (H : Heap) (locs : List Loc) (ls : Array Slot), KK h h2 = some () → fl_J s S g h S2 g2 h2 H locs → lv_has ls 8 [(0, .ref b), (1, .ref (g.2.2 x)), (2, .ref (g2.2.2 mo)), (3, .ref (g.2.2 o)), (4, .int i)] → W p l e room_1 s m #[.ref b] below meth c H locs (cells + 8) (slots + 48) Q (F0 m 1922 ls [])) : W p l e room_1 s m #[.ref b] below meth c H locs cells slots Q (F0 m 382 ls []) := by
  unfold z_law_4 at hsp
  obtain ⟨C, C2, EX, EX2, hN, hX, hbl, hlt, kx, km⟩ := F
  have hx := C.1.1
  have hb := C.1.2.1
  refine lv_aload_n hx hb dL_law_382 rfl (lv_at hl 1 rfl) ?_
  refine lv_aload_n hx hb dL_law_383 rfl (lv_at hl 0 rfl) ?_
  refine lv_iload hx hb dL_law_384 (lv_at hl 4 rfl) ?_
  refine lv_iconst (v := 1) hx hb dL_law_386 (by decide) ?_
  refine lv_iadd hx hb dL_law_387 ?_
  obtain ⟨hi1, hsp⟩ := fr_ck hsp
  refine va_sld (A := fun q => s.heap.size ≤ q) (xs := xs) hx hb hX hbl (by omega) J.2.2.2.2.2 (fh_in_vp hi1) dL_law_388 ?_
  refine lv_aload_n hx hb dL_law_389 rfl (lv_at hl 0 rfl) ?_
  refine lv_iload hx hb dL_law_390 (lv_at hl 4 rfl) ?_
  refine lv_iconst (v := 2) hx hb dL_law_392 (by decide) ?_
  refine lv_iadd hx hb dL_law_393 ?_
  obtain ⟨hi2, hsp⟩ := fr_ck hsp
  refine va_sld (A := fun q => s.heap.size ≤ q) (xs := xs) hx hb hX hbl (by omega) J.2.2.2.2.2 (fh_in_vp hi2) dL_law_394 ?_
  refine lv_aload_n hx hb dL_law_395 rfl (lv_at hl 0 rfl) ?_
  refine lv_iload hx hb dL_law_396 (lv_at hl 4 rfl) ?_
  refine lv_iconst (v := 3) hx hb dL_law_398 (by decide) ?_
  refine lv_iadd hx hb dL_law_399 ?_
  obtain ⟨hi3, hsp⟩ := fr_ck hsp
  refine va_sld (A := fun q => s.heap.size ≤ q) (xs := xs) hx hb hX hbl (by omega) J.2.2.2.2.2 (fh_in_vp hi3) dL_law_400 ?_
  obtain ⟨r4, h6, E5, hsp⟩ := fr_b2 hsp
  refine fl_cV (rest := []) (st1 := [.int r4]) C J (k_X11_fraction C.2.2 kx E5) Y_X11_fraction YV_X11_fraction Lk_RL_100 kx ⟨_, _, rfl, by decide⟩ rfl hl.1 ⟨Nat.le_of_ble_eq_true rfl, Nat.le_of_ble_eq_true rfl⟩ rfl (Nat.le_of_ble_eq_true rfl) ⟨by show _ ≤ 601024; omega, by show _ ≤ 7293034; omega⟩ rfl dL_law_401 (fun H locs J => ?_)
  refine lv_aload_n hx hb dL_law_404 rfl (lv_at hl 2 rfl) ?_
  refine lv_aload_n hx hb dL_law_405 rfl (lv_at hl 0 rfl) ?_
  refine lv_iload hx hb dL_law_406 (lv_at hl 4 rfl) ?_
  refine lv_iconst (v := 1) hx hb dL_law_408 (by decide) ?_
  refine lv_iadd hx hb dL_law_409 ?_
  refine va_sld (A := fun q => s.heap.size ≤ q) (xs := xs) hx hb hX hbl (by omega) J.2.2.2.2.2 (fh_in_vp hi1) dL_law_410 ?_
  refine lv_aload_n hx hb dL_law_411 rfl (lv_at hl 0 rfl) ?_
  refine lv_iload hx hb dL_law_412 (lv_at hl 4 rfl) ?_
  refine lv_iconst (v := 2) hx hb dL_law_414 (by decide) ?_
  refine lv_iadd hx hb dL_law_415 ?_
  refine va_sld (A := fun q => s.heap.size ≤ q) (xs := xs) hx hb hX hbl (by omega) J.2.2.2.2.2 (fh_in_vp hi2) dL_law_416 ?_
  refine lv_aload_n hx hb dL_law_417 rfl (lv_at hl 0 rfl) ?_
  refine lv_iload hx hb dL_law_418 (lv_at hl 4 rfl) ?_
  refine lv_iconst (v := 3) hx hb dL_law_420 (by decide) ?_
  refine lv_iadd hx hb dL_law_421 ?_
  refine va_sld (A := fun q => s.heap.size ≤ q) (xs := xs) hx hb hX hbl (by omega) J.2.2.2.2.2 (fh_in_vp hi3) dL_law_422 ?_
  obtain ⟨r7, h9, E8, hsp⟩ := fr_b2 hsp
  refine fl_cV (rest := [.int r4]) (st1 := [.int r7, .int r4]) C2 J.swap (k_X12_fraction C2.2.2 km E8) Y_X12_fraction YV_X12_fraction Lk_RL_104 km ⟨_, _, rfl, by decide⟩ rfl hl.1 ⟨Nat.le_of_ble_eq_true rfl, Nat.le_of_ble_eq_true rfl⟩ rfl (Nat.le_of_ble_eq_true rfl) ⟨by show _ ≤ 601024; omega, by show _ ≤ 7293034; omega⟩ rfl dL_law_423 (fun H locs J => ?_)
  have J := J.swap
  refine lv_icmp_eq (tgt := 1922) hx hb dL_law_426 (by decide) (fun c1 => ?_) (fun c1 => by rw [if_neg c1] at hsp; cases hsp)
  rw [if_pos c1] at hsp
  refine W.widen (k := cells + 8) (n := slots + 48) (by omega) (by omega) ?_
  exact hK h6 h9 _ _ _ hsp J (lv_sub hl [0, 1, 2, 3, 4] rfl)

def z_law_5 (S S2 : fh_S) (x mo o : Nat) (xs : Nat → Int32) (L : Nat) (KK : fh_H → fh_H → Option Unit) (h h2 : fh_H) (i : Int32) : Option Unit :=
    fh_ck (fh_in (i + (1 : Int32)) L) (fh_ck (fh_in (i + (2 : Int32)) L) (fh_ck (fh_in (i + (3 : Int32)) L) (fh_ck (fh_in (i + (4 : Int32)) L) (fh_b2 (z_X11_root S h x (xs (Int32.toNatClampNeg (i + (1 : Int32)))) (xs (Int32.toNatClampNeg (i + (2 : Int32)))) (xs (Int32.toNatClampNeg (i + (3 : Int32)))) (xs (Int32.toNatClampNeg (i + (4 : Int32))))) (fun r5 h7 => fh_b2 (z_X12_root S2 h2 mo (xs (Int32.toNatClampNeg (i + (1 : Int32)))) (xs (Int32.toNatClampNeg (i + (2 : Int32)))) (xs (Int32.toNatClampNeg (i + (3 : Int32)))) (xs (Int32.toNatClampNeg (i + (4 : Int32))))) (fun r8 h10 => if r5 = r8 then (KK h7 h10) else none))))))
set_option maxHeartbeats 4000000 in
set_option maxRecDepth 100000 in
theorem w_law_5 {p : Program} {l : Launch} {e : Env} {s : State} {m : MethodId} {below : List Frame} {meth : Method} {c : Code} {b L : Nat} {xs : Nat → Int32} {z : (Nat → Nat) × (Nat → Nat)} {S S2 : fh_S} {g g2 : fh_G} {x mo o : Nat} {Q : State → Prop} {h h2 : fh_H} {i : Int32} {H : Heap} {locs : List Loc} {cells slots : Nat} {ls : Array Slot} {KK : fh_H → fh_H → Option Unit} (F : fl_C p l s m c b L xs z S g S2 g2 x mo) (J : fl_J s S g h S2 g2 h2 H locs) (hc : cells + 8 ≤ 601024) (hs : slots + 48 ≤ 7293034) (hl : lv_has ls 8 [(0, .ref b), (1, .ref (g.2.2 x)), (2, .ref (g2.2.2 mo)), (3, .ref (g.2.2 o)), (4, .int i)]) (hsp : z_law_5 S S2 x mo o xs L KK h h2 i = some ())
    (hK : ∀ (h h2 : fh_H) (H : Heap) (locs : List Loc) (ls : Array Slot), KK h h2 = some () → fl_J s S g h S2 g2 h2 H locs → lv_has ls 8 [(0, .ref b), (1, .ref (g.2.2 x)), (2, .ref (g2.2.2 mo)), (3, .ref (g.2.2 o)), (4, .int i)] → W p l e room_1 s m #[.ref b] below meth c H locs (cells + 8) (slots + 48) Q (F0 m 1922 ls [])) : W p l e room_1 s m #[.ref b] below meth c H locs cells slots Q (F0 m 431 ls []) := by
  unfold z_law_5 at hsp
  obtain ⟨C, C2, EX, EX2, hN, hX, hbl, hlt, kx, km⟩ := F
  have hx := C.1.1
  have hb := C.1.2.1
  refine lv_aload_n hx hb dL_law_431 rfl (lv_at hl 1 rfl) ?_
  refine lv_aload_n hx hb dL_law_432 rfl (lv_at hl 0 rfl) ?_
  refine lv_iload hx hb dL_law_433 (lv_at hl 4 rfl) ?_
  refine lv_iconst (v := 1) hx hb dL_law_435 (by decide) ?_
  refine lv_iadd hx hb dL_law_436 ?_
  obtain ⟨hi1, hsp⟩ := fr_ck hsp
  refine va_sld (A := fun q => s.heap.size ≤ q) (xs := xs) hx hb hX hbl (by omega) J.2.2.2.2.2 (fh_in_vp hi1) dL_law_437 ?_
  refine lv_aload_n hx hb dL_law_438 rfl (lv_at hl 0 rfl) ?_
  refine lv_iload hx hb dL_law_439 (lv_at hl 4 rfl) ?_
  refine lv_iconst (v := 2) hx hb dL_law_441 (by decide) ?_
  refine lv_iadd hx hb dL_law_442 ?_
  obtain ⟨hi2, hsp⟩ := fr_ck hsp
  refine va_sld (A := fun q => s.heap.size ≤ q) (xs := xs) hx hb hX hbl (by omega) J.2.2.2.2.2 (fh_in_vp hi2) dL_law_443 ?_
  refine lv_aload_n hx hb dL_law_444 rfl (lv_at hl 0 rfl) ?_
  refine lv_iload hx hb dL_law_445 (lv_at hl 4 rfl) ?_
  refine lv_iconst (v := 3) hx hb dL_law_447 (by decide) ?_
  refine lv_iadd hx hb dL_law_448 ?_
  obtain ⟨hi3, hsp⟩ := fr_ck hsp
  refine va_sld (A := fun q => s.heap.size ≤ q) (xs := xs) hx hb hX hbl (by omega) J.2.2.2.2.2 (fh_in_vp hi3) dL_law_449 ?_
  refine lv_aload_n hx hb dL_law_450 rfl (lv_at hl 0 rfl) ?_
  refine lv_iload hx hb dL_law_451 (lv_at hl 4 rfl) ?_
  refine lv_iconst (v := 4) hx hb dL_law_453 (by decide) ?_
  refine lv_iadd hx hb dL_law_454 ?_
  obtain ⟨hi4, hsp⟩ := fr_ck hsp
  refine va_sld (A := fun q => s.heap.size ≤ q) (xs := xs) hx hb hX hbl (by omega) J.2.2.2.2.2 (fh_in_vp hi4) dL_law_455 ?_
  obtain ⟨r5, h7, E6, hsp⟩ := fr_b2 hsp
  refine fl_cV (rest := []) (st1 := [.int r5]) C J (k_X11_root C.2.2 kx E6) Y_X11_root YV_X11_root Lk_RL_105 kx ⟨_, _, rfl, by decide⟩ rfl hl.1 ⟨Nat.le_of_ble_eq_true rfl, Nat.le_of_ble_eq_true rfl⟩ rfl (Nat.le_of_ble_eq_true rfl) ⟨by show _ ≤ 601024; omega, by show _ ≤ 7293034; omega⟩ rfl dL_law_456 (fun H locs J => ?_)
  refine lv_aload_n hx hb dL_law_459 rfl (lv_at hl 2 rfl) ?_
  refine lv_aload_n hx hb dL_law_460 rfl (lv_at hl 0 rfl) ?_
  refine lv_iload hx hb dL_law_461 (lv_at hl 4 rfl) ?_
  refine lv_iconst (v := 1) hx hb dL_law_463 (by decide) ?_
  refine lv_iadd hx hb dL_law_464 ?_
  refine va_sld (A := fun q => s.heap.size ≤ q) (xs := xs) hx hb hX hbl (by omega) J.2.2.2.2.2 (fh_in_vp hi1) dL_law_465 ?_
  refine lv_aload_n hx hb dL_law_466 rfl (lv_at hl 0 rfl) ?_
  refine lv_iload hx hb dL_law_467 (lv_at hl 4 rfl) ?_
  refine lv_iconst (v := 2) hx hb dL_law_469 (by decide) ?_
  refine lv_iadd hx hb dL_law_470 ?_
  refine va_sld (A := fun q => s.heap.size ≤ q) (xs := xs) hx hb hX hbl (by omega) J.2.2.2.2.2 (fh_in_vp hi2) dL_law_471 ?_
  refine lv_aload_n hx hb dL_law_472 rfl (lv_at hl 0 rfl) ?_
  refine lv_iload hx hb dL_law_473 (lv_at hl 4 rfl) ?_
  refine lv_iconst (v := 3) hx hb dL_law_475 (by decide) ?_
  refine lv_iadd hx hb dL_law_476 ?_
  refine va_sld (A := fun q => s.heap.size ≤ q) (xs := xs) hx hb hX hbl (by omega) J.2.2.2.2.2 (fh_in_vp hi3) dL_law_477 ?_
  refine lv_aload_n hx hb dL_law_478 rfl (lv_at hl 0 rfl) ?_
  refine lv_iload hx hb dL_law_479 (lv_at hl 4 rfl) ?_
  refine lv_iconst (v := 4) hx hb dL_law_481 (by decide) ?_
  refine lv_iadd hx hb dL_law_482 ?_
  refine va_sld (A := fun q => s.heap.size ≤ q) (xs := xs) hx hb hX hbl (by omega) J.2.2.2.2.2 (fh_in_vp hi4) dL_law_483 ?_
  obtain ⟨r8, h10, E9, hsp⟩ := fr_b2 hsp
  refine fl_cV (rest := [.int r5]) (st1 := [.int r8, .int r5]) C2 J.swap (k_X12_root C2.2.2 km E9) Y_X12_root YV_X12_root Lk_RL_109 km ⟨_, _, rfl, by decide⟩ rfl hl.1 ⟨Nat.le_of_ble_eq_true rfl, Nat.le_of_ble_eq_true rfl⟩ rfl (Nat.le_of_ble_eq_true rfl) ⟨by show _ ≤ 601024; omega, by show _ ≤ 7293034; omega⟩ rfl dL_law_484 (fun H locs J => ?_)
  have J := J.swap
  refine lv_icmp_eq (tgt := 1922) hx hb dL_law_487 (by decide) (fun c1 => ?_) (fun c1 => by rw [if_neg c1] at hsp; cases hsp)
  rw [if_pos c1] at hsp
  refine W.widen (k := cells + 8) (n := slots + 48) (by omega) (by omega) ?_
  exact hK h7 h10 _ _ _ hsp J (lv_sub hl [0, 1, 2, 3, 4] rfl)

def z_law_6 (S S2 : fh_S) (x mo o : Nat) (xs : Nat → Int32) (L : Nat) (KK : fh_H → fh_H → Option Unit) (h h2 : fh_H) (i : Int32) : Option Unit :=
    fh_ck (fh_in (i + (1 : Int32)) L) (fh_ck (fh_in (i + (2 : Int32)) L) (fh_ck (fh_in (i + (3 : Int32)) L) (fh_ck (fh_in (i + (4 : Int32)) L) (fh_ck (fh_in (i + (5 : Int32)) L) (fh_ck (fh_in (i + (6 : Int32)) L) (fh_b2 (z_X11_single S h x (xs (Int32.toNatClampNeg (i + (1 : Int32)))) (xs (Int32.toNatClampNeg (i + (2 : Int32)))) (xs (Int32.toNatClampNeg (i + (3 : Int32)))) (xs (Int32.toNatClampNeg (i + (4 : Int32)))) (xs (Int32.toNatClampNeg (i + (5 : Int32)))) (xs (Int32.toNatClampNeg (i + (6 : Int32))))) (fun r7 h9 => fh_b2 (z_X12_single S2 h2 mo (xs (Int32.toNatClampNeg (i + (1 : Int32)))) (xs (Int32.toNatClampNeg (i + (2 : Int32)))) (xs (Int32.toNatClampNeg (i + (3 : Int32)))) (xs (Int32.toNatClampNeg (i + (4 : Int32)))) (xs (Int32.toNatClampNeg (i + (5 : Int32)))) (xs (Int32.toNatClampNeg (i + (6 : Int32))))) (fun r10 h12 => if r7 = r10 then (KK h9 h12) else none))))))))
set_option maxHeartbeats 4000000 in
set_option maxRecDepth 100000 in
theorem w_law_6 {p : Program} {l : Launch} {e : Env} {s : State} {m : MethodId} {below : List Frame} {meth : Method} {c : Code} {b L : Nat} {xs : Nat → Int32} {z : (Nat → Nat) × (Nat → Nat)} {S S2 : fh_S} {g g2 : fh_G} {x mo o : Nat} {Q : State → Prop} {h h2 : fh_H} {i : Int32} {H : Heap} {locs : List Loc} {cells slots : Nat} {ls : Array Slot} {KK : fh_H → fh_H → Option Unit} (F : fl_C p l s m c b L xs z S g S2 g2 x mo) (J : fl_J s S g h S2 g2 h2 H locs) (hc : cells + 8 ≤ 601024) (hs : slots + 48 ≤ 7293034) (hl : lv_has ls 8 [(0, .ref b), (1, .ref (g.2.2 x)), (2, .ref (g2.2.2 mo)), (3, .ref (g.2.2 o)), (4, .int i)]) (hsp : z_law_6 S S2 x mo o xs L KK h h2 i = some ())
    (hK : ∀ (h h2 : fh_H) (H : Heap) (locs : List Loc) (ls : Array Slot), KK h h2 = some () → fl_J s S g h S2 g2 h2 H locs → lv_has ls 8 [(0, .ref b), (1, .ref (g.2.2 x)), (2, .ref (g2.2.2 mo)), (3, .ref (g.2.2 o)), (4, .int i)] → W p l e room_1 s m #[.ref b] below meth c H locs (cells + 8) (slots + 48) Q (F0 m 1922 ls [])) : W p l e room_1 s m #[.ref b] below meth c H locs cells slots Q (F0 m 492 ls []) := by
  unfold z_law_6 at hsp
  obtain ⟨C, C2, EX, EX2, hN, hX, hbl, hlt, kx, km⟩ := F
  have hx := C.1.1
  have hb := C.1.2.1
  refine lv_aload_n hx hb dL_law_492 rfl (lv_at hl 1 rfl) ?_
  refine lv_aload_n hx hb dL_law_493 rfl (lv_at hl 0 rfl) ?_
  refine lv_iload hx hb dL_law_494 (lv_at hl 4 rfl) ?_
  refine lv_iconst (v := 1) hx hb dL_law_496 (by decide) ?_
  refine lv_iadd hx hb dL_law_497 ?_
  obtain ⟨hi1, hsp⟩ := fr_ck hsp
  refine va_sld (A := fun q => s.heap.size ≤ q) (xs := xs) hx hb hX hbl (by omega) J.2.2.2.2.2 (fh_in_vp hi1) dL_law_498 ?_
  refine lv_aload_n hx hb dL_law_499 rfl (lv_at hl 0 rfl) ?_
  refine lv_iload hx hb dL_law_500 (lv_at hl 4 rfl) ?_
  refine lv_iconst (v := 2) hx hb dL_law_502 (by decide) ?_
  refine lv_iadd hx hb dL_law_503 ?_
  obtain ⟨hi2, hsp⟩ := fr_ck hsp
  refine va_sld (A := fun q => s.heap.size ≤ q) (xs := xs) hx hb hX hbl (by omega) J.2.2.2.2.2 (fh_in_vp hi2) dL_law_504 ?_
  refine lv_aload_n hx hb dL_law_505 rfl (lv_at hl 0 rfl) ?_
  refine lv_iload hx hb dL_law_506 (lv_at hl 4 rfl) ?_
  refine lv_iconst (v := 3) hx hb dL_law_508 (by decide) ?_
  refine lv_iadd hx hb dL_law_509 ?_
  obtain ⟨hi3, hsp⟩ := fr_ck hsp
  refine va_sld (A := fun q => s.heap.size ≤ q) (xs := xs) hx hb hX hbl (by omega) J.2.2.2.2.2 (fh_in_vp hi3) dL_law_510 ?_
  refine lv_aload_n hx hb dL_law_511 rfl (lv_at hl 0 rfl) ?_
  refine lv_iload hx hb dL_law_512 (lv_at hl 4 rfl) ?_
  refine lv_iconst (v := 4) hx hb dL_law_514 (by decide) ?_
  refine lv_iadd hx hb dL_law_515 ?_
  obtain ⟨hi4, hsp⟩ := fr_ck hsp
  refine va_sld (A := fun q => s.heap.size ≤ q) (xs := xs) hx hb hX hbl (by omega) J.2.2.2.2.2 (fh_in_vp hi4) dL_law_516 ?_
  refine lv_aload_n hx hb dL_law_517 rfl (lv_at hl 0 rfl) ?_
  refine lv_iload hx hb dL_law_518 (lv_at hl 4 rfl) ?_
  refine lv_iconst (v := 5) hx hb dL_law_520 (by decide) ?_
  refine lv_iadd hx hb dL_law_521 ?_
  obtain ⟨hi5, hsp⟩ := fr_ck hsp
  refine va_sld (A := fun q => s.heap.size ≤ q) (xs := xs) hx hb hX hbl (by omega) J.2.2.2.2.2 (fh_in_vp hi5) dL_law_522 ?_
  refine lv_aload_n hx hb dL_law_523 rfl (lv_at hl 0 rfl) ?_
  refine lv_iload hx hb dL_law_524 (lv_at hl 4 rfl) ?_
  refine lv_bipush (v := 6) hx hb dL_law_526 (by decide) ?_
  refine lv_iadd hx hb dL_law_528 ?_
  obtain ⟨hi6, hsp⟩ := fr_ck hsp
  refine va_sld (A := fun q => s.heap.size ≤ q) (xs := xs) hx hb hX hbl (by omega) J.2.2.2.2.2 (fh_in_vp hi6) dL_law_529 ?_
  obtain ⟨r7, h9, E8, hsp⟩ := fr_b2 hsp
  refine fl_cV (rest := []) (st1 := [.int r7]) C J (k_X11_single C.2.2 kx E8) Y_X11_single YV_X11_single Lk_RL_110 kx ⟨_, _, rfl, by decide⟩ rfl hl.1 ⟨Nat.le_of_ble_eq_true rfl, Nat.le_of_ble_eq_true rfl⟩ rfl (Nat.le_of_ble_eq_true rfl) ⟨by show _ ≤ 601024; omega, by show _ ≤ 7293034; omega⟩ rfl dL_law_530 (fun H locs J => ?_)
  refine lv_aload_n hx hb dL_law_533 rfl (lv_at hl 2 rfl) ?_
  refine lv_aload_n hx hb dL_law_534 rfl (lv_at hl 0 rfl) ?_
  refine lv_iload hx hb dL_law_535 (lv_at hl 4 rfl) ?_
  refine lv_iconst (v := 1) hx hb dL_law_537 (by decide) ?_
  refine lv_iadd hx hb dL_law_538 ?_
  refine va_sld (A := fun q => s.heap.size ≤ q) (xs := xs) hx hb hX hbl (by omega) J.2.2.2.2.2 (fh_in_vp hi1) dL_law_539 ?_
  refine lv_aload_n hx hb dL_law_540 rfl (lv_at hl 0 rfl) ?_
  refine lv_iload hx hb dL_law_541 (lv_at hl 4 rfl) ?_
  refine lv_iconst (v := 2) hx hb dL_law_543 (by decide) ?_
  refine lv_iadd hx hb dL_law_544 ?_
  refine va_sld (A := fun q => s.heap.size ≤ q) (xs := xs) hx hb hX hbl (by omega) J.2.2.2.2.2 (fh_in_vp hi2) dL_law_545 ?_
  refine lv_aload_n hx hb dL_law_546 rfl (lv_at hl 0 rfl) ?_
  refine lv_iload hx hb dL_law_547 (lv_at hl 4 rfl) ?_
  refine lv_iconst (v := 3) hx hb dL_law_549 (by decide) ?_
  refine lv_iadd hx hb dL_law_550 ?_
  refine va_sld (A := fun q => s.heap.size ≤ q) (xs := xs) hx hb hX hbl (by omega) J.2.2.2.2.2 (fh_in_vp hi3) dL_law_551 ?_
  refine lv_aload_n hx hb dL_law_552 rfl (lv_at hl 0 rfl) ?_
  refine lv_iload hx hb dL_law_553 (lv_at hl 4 rfl) ?_
  refine lv_iconst (v := 4) hx hb dL_law_555 (by decide) ?_
  refine lv_iadd hx hb dL_law_556 ?_
  refine va_sld (A := fun q => s.heap.size ≤ q) (xs := xs) hx hb hX hbl (by omega) J.2.2.2.2.2 (fh_in_vp hi4) dL_law_557 ?_
  refine lv_aload_n hx hb dL_law_558 rfl (lv_at hl 0 rfl) ?_
  refine lv_iload hx hb dL_law_559 (lv_at hl 4 rfl) ?_
  refine lv_iconst (v := 5) hx hb dL_law_561 (by decide) ?_
  refine lv_iadd hx hb dL_law_562 ?_
  refine va_sld (A := fun q => s.heap.size ≤ q) (xs := xs) hx hb hX hbl (by omega) J.2.2.2.2.2 (fh_in_vp hi5) dL_law_563 ?_
  refine lv_aload_n hx hb dL_law_564 rfl (lv_at hl 0 rfl) ?_
  refine lv_iload hx hb dL_law_565 (lv_at hl 4 rfl) ?_
  refine lv_bipush (v := 6) hx hb dL_law_567 (by decide) ?_
  refine lv_iadd hx hb dL_law_569 ?_
  refine va_sld (A := fun q => s.heap.size ≤ q) (xs := xs) hx hb hX hbl (by omega) J.2.2.2.2.2 (fh_in_vp hi6) dL_law_570 ?_
  obtain ⟨r10, h12, E11, hsp⟩ := fr_b2 hsp
  refine fl_cV (rest := [.int r7]) (st1 := [.int r10, .int r7]) C2 J.swap (k_X12_single C2.2.2 km E11) Y_X12_single YV_X12_single Lk_RL_114 km ⟨_, _, rfl, by decide⟩ rfl hl.1 ⟨Nat.le_of_ble_eq_true rfl, Nat.le_of_ble_eq_true rfl⟩ rfl (Nat.le_of_ble_eq_true rfl) ⟨by show _ ≤ 601024; omega, by show _ ≤ 7293034; omega⟩ rfl dL_law_571 (fun H locs J => ?_)
  have J := J.swap
  refine lv_icmp_eq (tgt := 1922) hx hb dL_law_574 (by decide) (fun c1 => ?_) (fun c1 => by rw [if_neg c1] at hsp; cases hsp)
  rw [if_pos c1] at hsp
  refine W.widen (k := cells + 8) (n := slots + 48) (by omega) (by omega) ?_
  exact hK h9 h12 _ _ _ hsp J (lv_sub hl [0, 1, 2, 3, 4] rfl)

def z_law_7 (S S2 : fh_S) (x mo o : Nat) (xs : Nat → Int32) (L : Nat) (KK : fh_H → fh_H → Option Unit) (h h2 : fh_H) (i : Int32) : Option Unit :=
    fh_ck (fh_in (i + (1 : Int32)) L) (fh_ck (fh_in (i + (2 : Int32)) L) (fh_ck (fh_in (i + (3 : Int32)) L) (fh_ck (fh_in (i + (4 : Int32)) L) (fh_b2 (z_X11_join S h x (xs (Int32.toNatClampNeg (i + (1 : Int32)))) (xs (Int32.toNatClampNeg (i + (2 : Int32)))) (xs (Int32.toNatClampNeg (i + (3 : Int32)))) (xs (Int32.toNatClampNeg (i + (4 : Int32))))) (fun r5 h7 => fh_b2 (z_X12_join S2 h2 mo (xs (Int32.toNatClampNeg (i + (1 : Int32)))) (xs (Int32.toNatClampNeg (i + (2 : Int32)))) (xs (Int32.toNatClampNeg (i + (3 : Int32)))) (xs (Int32.toNatClampNeg (i + (4 : Int32))))) (fun r8 h10 => if r5 = r8 then (KK h7 h10) else none))))))
set_option maxHeartbeats 4000000 in
set_option maxRecDepth 100000 in
theorem w_law_7 {p : Program} {l : Launch} {e : Env} {s : State} {m : MethodId} {below : List Frame} {meth : Method} {c : Code} {b L : Nat} {xs : Nat → Int32} {z : (Nat → Nat) × (Nat → Nat)} {S S2 : fh_S} {g g2 : fh_G} {x mo o : Nat} {Q : State → Prop} {h h2 : fh_H} {i : Int32} {H : Heap} {locs : List Loc} {cells slots : Nat} {ls : Array Slot} {KK : fh_H → fh_H → Option Unit} (F : fl_C p l s m c b L xs z S g S2 g2 x mo) (J : fl_J s S g h S2 g2 h2 H locs) (hc : cells + 8 ≤ 601024) (hs : slots + 48 ≤ 7293034) (hl : lv_has ls 8 [(0, .ref b), (1, .ref (g.2.2 x)), (2, .ref (g2.2.2 mo)), (3, .ref (g.2.2 o)), (4, .int i)]) (hsp : z_law_7 S S2 x mo o xs L KK h h2 i = some ())
    (hK : ∀ (h h2 : fh_H) (H : Heap) (locs : List Loc) (ls : Array Slot), KK h h2 = some () → fl_J s S g h S2 g2 h2 H locs → lv_has ls 8 [(0, .ref b), (1, .ref (g.2.2 x)), (2, .ref (g2.2.2 mo)), (3, .ref (g.2.2 o)), (4, .int i)] → W p l e room_1 s m #[.ref b] below meth c H locs (cells + 8) (slots + 48) Q (F0 m 1922 ls [])) : W p l e room_1 s m #[.ref b] below meth c H locs cells slots Q (F0 m 579 ls []) := by
  unfold z_law_7 at hsp
  obtain ⟨C, C2, EX, EX2, hN, hX, hbl, hlt, kx, km⟩ := F
  have hx := C.1.1
  have hb := C.1.2.1
  refine lv_aload_n hx hb dL_law_579 rfl (lv_at hl 1 rfl) ?_
  refine lv_aload_n hx hb dL_law_580 rfl (lv_at hl 0 rfl) ?_
  refine lv_iload hx hb dL_law_581 (lv_at hl 4 rfl) ?_
  refine lv_iconst (v := 1) hx hb dL_law_583 (by decide) ?_
  refine lv_iadd hx hb dL_law_584 ?_
  obtain ⟨hi1, hsp⟩ := fr_ck hsp
  refine va_sld (A := fun q => s.heap.size ≤ q) (xs := xs) hx hb hX hbl (by omega) J.2.2.2.2.2 (fh_in_vp hi1) dL_law_585 ?_
  refine lv_aload_n hx hb dL_law_586 rfl (lv_at hl 0 rfl) ?_
  refine lv_iload hx hb dL_law_587 (lv_at hl 4 rfl) ?_
  refine lv_iconst (v := 2) hx hb dL_law_589 (by decide) ?_
  refine lv_iadd hx hb dL_law_590 ?_
  obtain ⟨hi2, hsp⟩ := fr_ck hsp
  refine va_sld (A := fun q => s.heap.size ≤ q) (xs := xs) hx hb hX hbl (by omega) J.2.2.2.2.2 (fh_in_vp hi2) dL_law_591 ?_
  refine lv_aload_n hx hb dL_law_592 rfl (lv_at hl 0 rfl) ?_
  refine lv_iload hx hb dL_law_593 (lv_at hl 4 rfl) ?_
  refine lv_iconst (v := 3) hx hb dL_law_595 (by decide) ?_
  refine lv_iadd hx hb dL_law_596 ?_
  obtain ⟨hi3, hsp⟩ := fr_ck hsp
  refine va_sld (A := fun q => s.heap.size ≤ q) (xs := xs) hx hb hX hbl (by omega) J.2.2.2.2.2 (fh_in_vp hi3) dL_law_597 ?_
  refine lv_aload_n hx hb dL_law_598 rfl (lv_at hl 0 rfl) ?_
  refine lv_iload hx hb dL_law_599 (lv_at hl 4 rfl) ?_
  refine lv_iconst (v := 4) hx hb dL_law_601 (by decide) ?_
  refine lv_iadd hx hb dL_law_602 ?_
  obtain ⟨hi4, hsp⟩ := fr_ck hsp
  refine va_sld (A := fun q => s.heap.size ≤ q) (xs := xs) hx hb hX hbl (by omega) J.2.2.2.2.2 (fh_in_vp hi4) dL_law_603 ?_
  obtain ⟨r5, h7, E6, hsp⟩ := fr_b2 hsp
  refine fl_cV (rest := []) (st1 := [.int r5]) C J (k_X11_join C.2.2 kx E6) Y_X11_join YV_X11_join Lk_RL_115 kx ⟨_, _, rfl, by decide⟩ rfl hl.1 ⟨Nat.le_of_ble_eq_true rfl, Nat.le_of_ble_eq_true rfl⟩ rfl (Nat.le_of_ble_eq_true rfl) ⟨by show _ ≤ 601024; omega, by show _ ≤ 7293034; omega⟩ rfl dL_law_604 (fun H locs J => ?_)
  refine lv_aload_n hx hb dL_law_607 rfl (lv_at hl 2 rfl) ?_
  refine lv_aload_n hx hb dL_law_608 rfl (lv_at hl 0 rfl) ?_
  refine lv_iload hx hb dL_law_609 (lv_at hl 4 rfl) ?_
  refine lv_iconst (v := 1) hx hb dL_law_611 (by decide) ?_
  refine lv_iadd hx hb dL_law_612 ?_
  refine va_sld (A := fun q => s.heap.size ≤ q) (xs := xs) hx hb hX hbl (by omega) J.2.2.2.2.2 (fh_in_vp hi1) dL_law_613 ?_
  refine lv_aload_n hx hb dL_law_614 rfl (lv_at hl 0 rfl) ?_
  refine lv_iload hx hb dL_law_615 (lv_at hl 4 rfl) ?_
  refine lv_iconst (v := 2) hx hb dL_law_617 (by decide) ?_
  refine lv_iadd hx hb dL_law_618 ?_
  refine va_sld (A := fun q => s.heap.size ≤ q) (xs := xs) hx hb hX hbl (by omega) J.2.2.2.2.2 (fh_in_vp hi2) dL_law_619 ?_
  refine lv_aload_n hx hb dL_law_620 rfl (lv_at hl 0 rfl) ?_
  refine lv_iload hx hb dL_law_621 (lv_at hl 4 rfl) ?_
  refine lv_iconst (v := 3) hx hb dL_law_623 (by decide) ?_
  refine lv_iadd hx hb dL_law_624 ?_
  refine va_sld (A := fun q => s.heap.size ≤ q) (xs := xs) hx hb hX hbl (by omega) J.2.2.2.2.2 (fh_in_vp hi3) dL_law_625 ?_
  refine lv_aload_n hx hb dL_law_626 rfl (lv_at hl 0 rfl) ?_
  refine lv_iload hx hb dL_law_627 (lv_at hl 4 rfl) ?_
  refine lv_iconst (v := 4) hx hb dL_law_629 (by decide) ?_
  refine lv_iadd hx hb dL_law_630 ?_
  refine va_sld (A := fun q => s.heap.size ≤ q) (xs := xs) hx hb hX hbl (by omega) J.2.2.2.2.2 (fh_in_vp hi4) dL_law_631 ?_
  obtain ⟨r8, h10, E9, hsp⟩ := fr_b2 hsp
  refine fl_cV (rest := [.int r5]) (st1 := [.int r8, .int r5]) C2 J.swap (k_X12_join C2.2.2 km E9) Y_X12_join YV_X12_join Lk_RL_118 km ⟨_, _, rfl, by decide⟩ rfl hl.1 ⟨Nat.le_of_ble_eq_true rfl, Nat.le_of_ble_eq_true rfl⟩ rfl (Nat.le_of_ble_eq_true rfl) ⟨by show _ ≤ 601024; omega, by show _ ≤ 7293034; omega⟩ rfl dL_law_632 (fun H locs J => ?_)
  have J := J.swap
  refine lv_icmp_eq (tgt := 1922) hx hb dL_law_635 (by decide) (fun c1 => ?_) (fun c1 => by rw [if_neg c1] at hsp; cases hsp)
  rw [if_pos c1] at hsp
  refine W.widen (k := cells + 8) (n := slots + 48) (by omega) (by omega) ?_
  exact hK h7 h10 _ _ _ hsp J (lv_sub hl [0, 1, 2, 3, 4] rfl)

def z_law_8 (S S2 : fh_S) (x mo o : Nat) (xs : Nat → Int32) (L : Nat) (KK : fh_H → fh_H → Option Unit) (h h2 : fh_H) (i : Int32) : Option Unit :=
    fh_b2 (z_X11_undo S h x) (fun r1 h3 => fh_b2 (z_X12_undo S2 h2 mo) (fun r4 h6 => if r1 = r4 then (KK h3 h6) else none))
set_option maxHeartbeats 4000000 in
set_option maxRecDepth 100000 in
theorem w_law_8 {p : Program} {l : Launch} {e : Env} {s : State} {m : MethodId} {below : List Frame} {meth : Method} {c : Code} {b L : Nat} {xs : Nat → Int32} {z : (Nat → Nat) × (Nat → Nat)} {S S2 : fh_S} {g g2 : fh_G} {x mo o : Nat} {Q : State → Prop} {h h2 : fh_H} {i : Int32} {H : Heap} {locs : List Loc} {cells slots : Nat} {ls : Array Slot} {KK : fh_H → fh_H → Option Unit} (F : fl_C p l s m c b L xs z S g S2 g2 x mo) (J : fl_J s S g h S2 g2 h2 H locs) (hc : cells + 8 ≤ 601024) (hs : slots + 48 ≤ 7293034) (hl : lv_has ls 8 [(0, .ref b), (1, .ref (g.2.2 x)), (2, .ref (g2.2.2 mo)), (3, .ref (g.2.2 o)), (4, .int i)]) (hsp : z_law_8 S S2 x mo o xs L KK h h2 i = some ())
    (hK : ∀ (h h2 : fh_H) (H : Heap) (locs : List Loc) (ls : Array Slot), KK h h2 = some () → fl_J s S g h S2 g2 h2 H locs → lv_has ls 8 [(0, .ref b), (1, .ref (g.2.2 x)), (2, .ref (g2.2.2 mo)), (3, .ref (g.2.2 o)), (4, .int i)] → W p l e room_1 s m #[.ref b] below meth c H locs (cells + 8) (slots + 48) Q (F0 m 1922 ls [])) : W p l e room_1 s m #[.ref b] below meth c H locs cells slots Q (F0 m 640 ls []) := by
  unfold z_law_8 at hsp
  obtain ⟨C, C2, EX, EX2, hN, hX, hbl, hlt, kx, km⟩ := F
  have hx := C.1.1
  have hb := C.1.2.1
  refine lv_aload_n hx hb dL_law_640 rfl (lv_at hl 1 rfl) ?_
  obtain ⟨r1, h3, E2, hsp⟩ := fr_b2 hsp
  refine fl_cV (rest := []) (st1 := [.int r1]) C J (k_X11_undo C.2.2 kx E2) Y_X11_undo YV_X11_undo Lk_RL_119 kx ⟨_, _, rfl, by decide⟩ rfl hl.1 ⟨Nat.le_of_ble_eq_true rfl, Nat.le_of_ble_eq_true rfl⟩ rfl (Nat.le_of_ble_eq_true rfl) ⟨by show _ ≤ 601024; omega, by show _ ≤ 7293034; omega⟩ rfl dL_law_641 (fun H locs J => ?_)
  refine lv_aload_n hx hb dL_law_644 rfl (lv_at hl 2 rfl) ?_
  obtain ⟨r4, h6, E5, hsp⟩ := fr_b2 hsp
  refine fl_cV (rest := [.int r1]) (st1 := [.int r4, .int r1]) C2 J.swap (k_X12_undo C2.2.2 km E5) Y_X12_undo YV_X12_undo Lk_RL_122 km ⟨_, _, rfl, by decide⟩ rfl hl.1 ⟨Nat.le_of_ble_eq_true rfl, Nat.le_of_ble_eq_true rfl⟩ rfl (Nat.le_of_ble_eq_true rfl) ⟨by show _ ≤ 601024; omega, by show _ ≤ 7293034; omega⟩ rfl dL_law_645 (fun H locs J => ?_)
  have J := J.swap
  refine lv_icmp_eq (tgt := 1922) hx hb dL_law_648 (by decide) (fun c1 => ?_) (fun c1 => by rw [if_neg c1] at hsp; cases hsp)
  rw [if_pos c1] at hsp
  refine W.widen (k := cells + 8) (n := slots + 48) (by omega) (by omega) ?_
  exact hK h3 h6 _ _ _ hsp J (lv_sub hl [0, 1, 2, 3, 4] rfl)

def z_law_9 (S S2 : fh_S) (x mo o : Nat) (xs : Nat → Int32) (L : Nat) (KK : fh_H → fh_H → Option Unit) (h h2 : fh_H) (i : Int32) : Option Unit :=
    fh_ck (fh_in (i + (1 : Int32)) L) (fh_b2 (z_L_count S h x (xs (Int32.toNatClampNeg (i + (1 : Int32)))) o) (fun r2 h3 => fh_b2 (z_X12_count S2 h2 mo (xs (Int32.toNatClampNeg (i + (1 : Int32))))) (fun r5 h7 => fh_b1 (z_X12_thrown S2 h7 mo) (fun r8 => if r8 = r2 then (if r2 = 0 then (fh_ck (fh_kq S o 14) (fh_ck (fh_in 0 (S.2.2 o)) (if (h3.2.1 o (Int32.toNatClampNeg 0)) = (Int32.toInt64 r5) then (KK h3 h7) else none))) else (KK h3 h7)) else none))))
set_option maxHeartbeats 4000000 in
set_option maxRecDepth 100000 in
theorem w_law_9 {p : Program} {l : Launch} {e : Env} {s : State} {m : MethodId} {below : List Frame} {meth : Method} {c : Code} {b L : Nat} {xs : Nat → Int32} {z : (Nat → Nat) × (Nat → Nat)} {S S2 : fh_S} {g g2 : fh_G} {x mo o : Nat} {Q : State → Prop} {h h2 : fh_H} {i : Int32} {H : Heap} {locs : List Loc} {cells slots : Nat} {ls : Array Slot} {KK : fh_H → fh_H → Option Unit} (F : fl_C p l s m c b L xs z S g S2 g2 x mo) (J : fl_J s S g h S2 g2 h2 H locs) (hc : cells + 8 ≤ 601024) (hs : slots + 48 ≤ 7293034) (hl : lv_has ls 8 [(0, .ref b), (1, .ref (g.2.2 x)), (2, .ref (g2.2.2 mo)), (3, .ref (g.2.2 o)), (4, .int i)]) (hsp : z_law_9 S S2 x mo o xs L KK h h2 i = some ())
    (hK : ∀ (h h2 : fh_H) (H : Heap) (locs : List Loc) (ls : Array Slot), KK h h2 = some () → fl_J s S g h S2 g2 h2 H locs → lv_has ls 8 [(0, .ref b), (1, .ref (g.2.2 x)), (2, .ref (g2.2.2 mo)), (3, .ref (g.2.2 o)), (4, .int i)] → W p l e room_1 s m #[.ref b] below meth c H locs (cells + 8) (slots + 48) Q (F0 m 1922 ls [])) : W p l e room_1 s m #[.ref b] below meth c H locs cells slots Q (F0 m 653 ls []) := by
  unfold z_law_9 at hsp
  obtain ⟨C, C2, EX, EX2, hN, hX, hbl, hlt, kx, km⟩ := F
  have hx := C.1.1
  have hb := C.1.2.1
  refine lv_aload_n hx hb dL_law_653 rfl (lv_at hl 1 rfl) ?_
  refine lv_aload_n hx hb dL_law_654 rfl (lv_at hl 0 rfl) ?_
  refine lv_iload hx hb dL_law_655 (lv_at hl 4 rfl) ?_
  refine lv_iconst (v := 1) hx hb dL_law_657 (by decide) ?_
  refine lv_iadd hx hb dL_law_658 ?_
  obtain ⟨hi1, hsp⟩ := fr_ck hsp
  refine va_sld (A := fun q => s.heap.size ≤ q) (xs := xs) hx hb hX hbl (by omega) J.2.2.2.2.2 (fh_in_vp hi1) dL_law_659 ?_
  refine lv_aload_n hx hb dL_law_660 rfl (lv_at hl 3 rfl) ?_
  obtain ⟨r2, h3, E4, hsp⟩ := fr_b2 hsp
  refine fl_cW (rest := []) C EX hN J (k_L_count C.2.2 hlt kx E4) Y_L_count YS_L_count Lk_RL_123 rfl hl.1 ⟨Nat.le_of_ble_eq_true rfl, Nat.le_of_ble_eq_true rfl⟩ rfl (Nat.le_of_ble_eq_true rfl) ⟨by show _ ≤ 601024; omega, by show _ ≤ 7293034; omega⟩ dL_law_661 (fun H locs J => ?_)
  refine lv_istore (lv' := [(5, .int r2), (0, .ref b), (1, .ref (g.2.2 x)), (2, .ref (g2.2.2 mo)), (3, .ref (g.2.2 o)), (4, .int i)]) hx hb dL_law_664 hl (by decide) rfl (fun ls hl => ?_)
  refine lv_aload_n hx hb dL_law_666 rfl (lv_at hl 3 rfl) ?_
  refine lv_aload_n hx hb dL_law_667 rfl (lv_at hl 1 rfl) ?_
  refine lv_iload hx hb dL_law_668 (lv_at hl 5 rfl) ?_
  refine lv_iconst (v := 1) hx hb dL_law_670 (by decide) ?_
  refine lv_iadd hx hb dL_law_671 ?_
  refine va_sld (A := fun q => s.heap.size ≤ q) (xs := xs) hx hb hX hbl (by omega) J.2.2.2.2.2 (fh_in_vp hi1) dL_law_672 ?_
  obtain ⟨r5, h7, E6, hsp⟩ := fr_b2 hsp
  refine fl_cV (rest := []) (st1 := [.int r5]) C2 J.swap (k_X12_count C2.2.2 km E6) Y_X12_count YV_X12_count Lk_RL_126 km ⟨_, _, rfl, by decide⟩ rfl hl.1 ⟨Nat.le_of_ble_eq_true rfl, Nat.le_of_ble_eq_true rfl⟩ rfl (Nat.le_of_ble_eq_true rfl) ⟨by show _ ≤ 601024; omega, by show _ ≤ 7293034; omega⟩ rfl dL_law_673 (fun H locs J => ?_)
  have J := J.swap
  refine lv_istore (lv' := [(6, .int r5), (5, .int r2), (0, .ref b), (1, .ref (g.2.2 x)), (2, .ref (g2.2.2 mo)), (3, .ref (g.2.2 o)), (4, .int i)]) hx hb dL_law_676 hl (by decide) rfl (fun ls hl => ?_)
  refine lv_aload_n hx hb dL_law_678 rfl (lv_at hl 4 rfl) ?_
  obtain ⟨r8, E9, hsp⟩ := fr_b1 hsp
  refine fl_cV (rest := []) (st1 := [.int r8]) C2 J.swap (k_X12_thrown C2.2.2 km E9) Y_X12_thrown YV_X12_thrown Lk_RL_89 km ⟨_, _, rfl, by decide⟩ rfl hl.1 ⟨Nat.le_of_ble_eq_true rfl, Nat.le_of_ble_eq_true rfl⟩ rfl (Nat.le_of_ble_eq_true rfl) ⟨by show _ ≤ 601024; omega, by show _ ≤ 7293034; omega⟩ rfl dL_law_679 (fun H locs J => ?_)
  have J := J.swap
  refine lv_iload hx hb dL_law_682 (lv_at hl 1 rfl) ?_
  refine lv_icmp_eq (tgt := 689) hx hb dL_law_684 (by decide) (fun c1 => ?_) (fun c1 => by rw [if_neg c1] at hsp; cases hsp)
  rw [if_pos c1] at hsp
  refine lv_iload hx hb dL_law_689 (lv_at hl 1 rfl) ?_
  refine lv_if_ne (tgt := 706) hx hb dL_law_691 (by decide) (fun c1 => ?_) (fun c1 => ?_)
  · rw [if_neg c1] at hsp
    refine lv_goto (tgt := 1922) hx hb dL_law_706 (by decide) ?_
    refine W.widen (k := cells + 8) (n := slots + 48) (by omega) (by omega) ?_
    exact hK h3 h7 _ _ _ hsp J (lv_sub hl [2, 3, 4, 5, 6] rfl)
  · rw [if_pos c1] at hsp
    refine lv_aload_n hx hb dL_law_694 rfl (lv_at hl 5 rfl) ?_
    refine lv_iconst (v := 0) hx hb dL_law_695 (by decide) ?_
    obtain ⟨hk10, hsp⟩ := fr_ck hsp
    obtain ⟨hi11, hsp⟩ := fr_ck hsp
    refine fr_lald C J.R hk10 hi11 dL_law_696 ?_
    refine lv_iload hx hb dL_law_697 (lv_at hl 0 rfl) ?_
    refine lv_i2l hx hb dL_law_699 rfl ?_
    refine fr_lc_eq (tgt := 706) hx hb dL_law_700 dL_law_701 (by decide) (fun c1 => ?_) (fun c1 => by rw [if_neg c1] at hsp; cases hsp)
    rw [if_pos c1] at hsp
    refine lv_goto (tgt := 1922) hx hb dL_law_706 (by decide) ?_
    refine W.widen (k := cells + 8) (n := slots + 48) (by omega) (by omega) ?_
    exact hK h3 h7 _ _ _ hsp J (lv_sub hl [2, 3, 4, 5, 6] rfl)

def z_law_10 (S S2 : fh_S) (x mo o : Nat) (xs : Nat → Int32) (L : Nat) (KK : fh_H → fh_H → Option Unit) (h h2 : fh_H) (i : Int32) : Option Unit :=
    fh_ck (fh_in (i + (1 : Int32)) L) (fh_ck (fh_in (i + (2 : Int32)) L) (fh_b2 (z_L_of S h x (xs (Int32.toNatClampNeg (i + (1 : Int32)))) (xs (Int32.toNatClampNeg (i + (2 : Int32)))) o) (fun r3 h4 => fh_b2 (z_X12_of S2 h2 mo (xs (Int32.toNatClampNeg (i + (1 : Int32)))) (xs (Int32.toNatClampNeg (i + (2 : Int32))))) (fun r6 h8 => fh_b1 (z_X12_thrown S2 h8 mo) (fun r9 => if r9 = r3 then (if r3 = 0 then (fh_ck (fh_kq S o 14) (fh_ck (fh_in 0 (S.2.2 o)) (if (h4.2.1 o (Int32.toNatClampNeg 0)) = (Int32.toInt64 r6) then (KK h4 h8) else none))) else (KK h4 h8)) else none)))))
set_option maxHeartbeats 4000000 in
set_option maxRecDepth 100000 in
theorem w_law_10 {p : Program} {l : Launch} {e : Env} {s : State} {m : MethodId} {below : List Frame} {meth : Method} {c : Code} {b L : Nat} {xs : Nat → Int32} {z : (Nat → Nat) × (Nat → Nat)} {S S2 : fh_S} {g g2 : fh_G} {x mo o : Nat} {Q : State → Prop} {h h2 : fh_H} {i : Int32} {H : Heap} {locs : List Loc} {cells slots : Nat} {ls : Array Slot} {KK : fh_H → fh_H → Option Unit} (F : fl_C p l s m c b L xs z S g S2 g2 x mo) (J : fl_J s S g h S2 g2 h2 H locs) (hc : cells + 8 ≤ 601024) (hs : slots + 48 ≤ 7293034) (hl : lv_has ls 8 [(0, .ref b), (1, .ref (g.2.2 x)), (2, .ref (g2.2.2 mo)), (3, .ref (g.2.2 o)), (4, .int i)]) (hsp : z_law_10 S S2 x mo o xs L KK h h2 i = some ())
    (hK : ∀ (h h2 : fh_H) (H : Heap) (locs : List Loc) (ls : Array Slot), KK h h2 = some () → fl_J s S g h S2 g2 h2 H locs → lv_has ls 8 [(0, .ref b), (1, .ref (g.2.2 x)), (2, .ref (g2.2.2 mo)), (3, .ref (g.2.2 o)), (4, .int i)] → W p l e room_1 s m #[.ref b] below meth c H locs (cells + 8) (slots + 48) Q (F0 m 1922 ls [])) : W p l e room_1 s m #[.ref b] below meth c H locs cells slots Q (F0 m 709 ls []) := by
  unfold z_law_10 at hsp
  obtain ⟨C, C2, EX, EX2, hN, hX, hbl, hlt, kx, km⟩ := F
  have hx := C.1.1
  have hb := C.1.2.1
  refine lv_aload_n hx hb dL_law_709 rfl (lv_at hl 1 rfl) ?_
  refine lv_aload_n hx hb dL_law_710 rfl (lv_at hl 0 rfl) ?_
  refine lv_iload hx hb dL_law_711 (lv_at hl 4 rfl) ?_
  refine lv_iconst (v := 1) hx hb dL_law_713 (by decide) ?_
  refine lv_iadd hx hb dL_law_714 ?_
  obtain ⟨hi1, hsp⟩ := fr_ck hsp
  refine va_sld (A := fun q => s.heap.size ≤ q) (xs := xs) hx hb hX hbl (by omega) J.2.2.2.2.2 (fh_in_vp hi1) dL_law_715 ?_
  refine lv_aload_n hx hb dL_law_716 rfl (lv_at hl 0 rfl) ?_
  refine lv_iload hx hb dL_law_717 (lv_at hl 4 rfl) ?_
  refine lv_iconst (v := 2) hx hb dL_law_719 (by decide) ?_
  refine lv_iadd hx hb dL_law_720 ?_
  obtain ⟨hi2, hsp⟩ := fr_ck hsp
  refine va_sld (A := fun q => s.heap.size ≤ q) (xs := xs) hx hb hX hbl (by omega) J.2.2.2.2.2 (fh_in_vp hi2) dL_law_721 ?_
  refine lv_aload_n hx hb dL_law_722 rfl (lv_at hl 3 rfl) ?_
  obtain ⟨r3, h4, E5, hsp⟩ := fr_b2 hsp
  refine fl_cW (rest := []) C EX hN J (k_L_of C.2.2 hlt kx E5) Y_L_of YS_L_of Lk_RL_127 rfl hl.1 ⟨Nat.le_of_ble_eq_true rfl, Nat.le_of_ble_eq_true rfl⟩ rfl (Nat.le_of_ble_eq_true rfl) ⟨by show _ ≤ 601024; omega, by show _ ≤ 7293034; omega⟩ dL_law_723 (fun H locs J => ?_)
  refine lv_istore (lv' := [(5, .int r3), (0, .ref b), (1, .ref (g.2.2 x)), (2, .ref (g2.2.2 mo)), (3, .ref (g.2.2 o)), (4, .int i)]) hx hb dL_law_726 hl (by decide) rfl (fun ls hl => ?_)
  refine lv_aload_n hx hb dL_law_728 rfl (lv_at hl 3 rfl) ?_
  refine lv_aload_n hx hb dL_law_729 rfl (lv_at hl 1 rfl) ?_
  refine lv_iload hx hb dL_law_730 (lv_at hl 5 rfl) ?_
  refine lv_iconst (v := 1) hx hb dL_law_732 (by decide) ?_
  refine lv_iadd hx hb dL_law_733 ?_
  refine va_sld (A := fun q => s.heap.size ≤ q) (xs := xs) hx hb hX hbl (by omega) J.2.2.2.2.2 (fh_in_vp hi1) dL_law_734 ?_
  refine lv_aload_n hx hb dL_law_735 rfl (lv_at hl 1 rfl) ?_
  refine lv_iload hx hb dL_law_736 (lv_at hl 5 rfl) ?_
  refine lv_iconst (v := 2) hx hb dL_law_738 (by decide) ?_
  refine lv_iadd hx hb dL_law_739 ?_
  refine va_sld (A := fun q => s.heap.size ≤ q) (xs := xs) hx hb hX hbl (by omega) J.2.2.2.2.2 (fh_in_vp hi2) dL_law_740 ?_
  obtain ⟨r6, h8, E7, hsp⟩ := fr_b2 hsp
  refine fl_cV (rest := []) (st1 := [.int r6]) C2 J.swap (k_X12_of C2.2.2 km E7) Y_X12_of YV_X12_of Lk_RL_129 km ⟨_, _, rfl, by decide⟩ rfl hl.1 ⟨Nat.le_of_ble_eq_true rfl, Nat.le_of_ble_eq_true rfl⟩ rfl (Nat.le_of_ble_eq_true rfl) ⟨by show _ ≤ 601024; omega, by show _ ≤ 7293034; omega⟩ rfl dL_law_741 (fun H locs J => ?_)
  have J := J.swap
  refine lv_istore (lv' := [(6, .int r6), (5, .int r3), (0, .ref b), (1, .ref (g.2.2 x)), (2, .ref (g2.2.2 mo)), (3, .ref (g.2.2 o)), (4, .int i)]) hx hb dL_law_744 hl (by decide) rfl (fun ls hl => ?_)
  refine lv_aload_n hx hb dL_law_746 rfl (lv_at hl 4 rfl) ?_
  obtain ⟨r9, E10, hsp⟩ := fr_b1 hsp
  refine fl_cV (rest := []) (st1 := [.int r9]) C2 J.swap (k_X12_thrown C2.2.2 km E10) Y_X12_thrown YV_X12_thrown Lk_RL_89 km ⟨_, _, rfl, by decide⟩ rfl hl.1 ⟨Nat.le_of_ble_eq_true rfl, Nat.le_of_ble_eq_true rfl⟩ rfl (Nat.le_of_ble_eq_true rfl) ⟨by show _ ≤ 601024; omega, by show _ ≤ 7293034; omega⟩ rfl dL_law_747 (fun H locs J => ?_)
  have J := J.swap
  refine lv_iload hx hb dL_law_750 (lv_at hl 1 rfl) ?_
  refine lv_icmp_eq (tgt := 757) hx hb dL_law_752 (by decide) (fun c1 => ?_) (fun c1 => by rw [if_neg c1] at hsp; cases hsp)
  rw [if_pos c1] at hsp
  refine lv_iload hx hb dL_law_757 (lv_at hl 1 rfl) ?_
  refine lv_if_ne (tgt := 774) hx hb dL_law_759 (by decide) (fun c1 => ?_) (fun c1 => ?_)
  · rw [if_neg c1] at hsp
    refine lv_goto (tgt := 1922) hx hb dL_law_774 (by decide) ?_
    refine W.widen (k := cells + 8) (n := slots + 48) (by omega) (by omega) ?_
    exact hK h4 h8 _ _ _ hsp J (lv_sub hl [2, 3, 4, 5, 6] rfl)
  · rw [if_pos c1] at hsp
    refine lv_aload_n hx hb dL_law_762 rfl (lv_at hl 5 rfl) ?_
    refine lv_iconst (v := 0) hx hb dL_law_763 (by decide) ?_
    obtain ⟨hk11, hsp⟩ := fr_ck hsp
    obtain ⟨hi12, hsp⟩ := fr_ck hsp
    refine fr_lald C J.R hk11 hi12 dL_law_764 ?_
    refine lv_iload hx hb dL_law_765 (lv_at hl 0 rfl) ?_
    refine lv_i2l hx hb dL_law_767 rfl ?_
    refine fr_lc_eq (tgt := 774) hx hb dL_law_768 dL_law_769 (by decide) (fun c1 => ?_) (fun c1 => by rw [if_neg c1] at hsp; cases hsp)
    rw [if_pos c1] at hsp
    refine lv_goto (tgt := 1922) hx hb dL_law_774 (by decide) ?_
    refine W.widen (k := cells + 8) (n := slots + 48) (by omega) (by omega) ?_
    exact hK h4 h8 _ _ _ hsp J (lv_sub hl [2, 3, 4, 5, 6] rfl)

def z_law_11 (S S2 : fh_S) (x mo o : Nat) (xs : Nat → Int32) (L : Nat) (KK : fh_H → fh_H → Option Unit) (h h2 : fh_H) (i : Int32) : Option Unit :=
    fh_ck (fh_in (i + (1 : Int32)) L) (fh_ck (fh_in (i + (2 : Int32)) L) (fh_b2 (z_L_term S h x (xs (Int32.toNatClampNeg (i + (1 : Int32)))) (xs (Int32.toNatClampNeg (i + (2 : Int32)))) o) (fun r3 h4 => fh_b2 (z_X12_term S2 h2 mo (xs (Int32.toNatClampNeg (i + (1 : Int32)))) (xs (Int32.toNatClampNeg (i + (2 : Int32))))) (fun r6 h8 => fh_b1 (z_X12_thrown S2 h8 mo) (fun r9 => if r9 = r3 then (if r3 = 0 then (fh_ck (fh_kq S o 14) (fh_ck (fh_in 0 (S.2.2 o)) (if (h4.2.1 o (Int32.toNatClampNeg 0)) = (Int32.toInt64 r6) then (KK h4 h8) else none))) else (KK h4 h8)) else none)))))
set_option maxHeartbeats 4000000 in
set_option maxRecDepth 100000 in
theorem w_law_11 {p : Program} {l : Launch} {e : Env} {s : State} {m : MethodId} {below : List Frame} {meth : Method} {c : Code} {b L : Nat} {xs : Nat → Int32} {z : (Nat → Nat) × (Nat → Nat)} {S S2 : fh_S} {g g2 : fh_G} {x mo o : Nat} {Q : State → Prop} {h h2 : fh_H} {i : Int32} {H : Heap} {locs : List Loc} {cells slots : Nat} {ls : Array Slot} {KK : fh_H → fh_H → Option Unit} (F : fl_C p l s m c b L xs z S g S2 g2 x mo) (J : fl_J s S g h S2 g2 h2 H locs) (hc : cells + 8 ≤ 601024) (hs : slots + 48 ≤ 7293034) (hl : lv_has ls 8 [(0, .ref b), (1, .ref (g.2.2 x)), (2, .ref (g2.2.2 mo)), (3, .ref (g.2.2 o)), (4, .int i)]) (hsp : z_law_11 S S2 x mo o xs L KK h h2 i = some ())
    (hK : ∀ (h h2 : fh_H) (H : Heap) (locs : List Loc) (ls : Array Slot), KK h h2 = some () → fl_J s S g h S2 g2 h2 H locs → lv_has ls 8 [(0, .ref b), (1, .ref (g.2.2 x)), (2, .ref (g2.2.2 mo)), (3, .ref (g.2.2 o)), (4, .int i)] → W p l e room_1 s m #[.ref b] below meth c H locs (cells + 8) (slots + 48) Q (F0 m 1922 ls [])) : W p l e room_1 s m #[.ref b] below meth c H locs cells slots Q (F0 m 777 ls []) := by
  unfold z_law_11 at hsp
  obtain ⟨C, C2, EX, EX2, hN, hX, hbl, hlt, kx, km⟩ := F
  have hx := C.1.1
  have hb := C.1.2.1
  refine lv_aload_n hx hb dL_law_777 rfl (lv_at hl 1 rfl) ?_
  refine lv_aload_n hx hb dL_law_778 rfl (lv_at hl 0 rfl) ?_
  refine lv_iload hx hb dL_law_779 (lv_at hl 4 rfl) ?_
  refine lv_iconst (v := 1) hx hb dL_law_781 (by decide) ?_
  refine lv_iadd hx hb dL_law_782 ?_
  obtain ⟨hi1, hsp⟩ := fr_ck hsp
  refine va_sld (A := fun q => s.heap.size ≤ q) (xs := xs) hx hb hX hbl (by omega) J.2.2.2.2.2 (fh_in_vp hi1) dL_law_783 ?_
  refine lv_aload_n hx hb dL_law_784 rfl (lv_at hl 0 rfl) ?_
  refine lv_iload hx hb dL_law_785 (lv_at hl 4 rfl) ?_
  refine lv_iconst (v := 2) hx hb dL_law_787 (by decide) ?_
  refine lv_iadd hx hb dL_law_788 ?_
  obtain ⟨hi2, hsp⟩ := fr_ck hsp
  refine va_sld (A := fun q => s.heap.size ≤ q) (xs := xs) hx hb hX hbl (by omega) J.2.2.2.2.2 (fh_in_vp hi2) dL_law_789 ?_
  refine lv_aload_n hx hb dL_law_790 rfl (lv_at hl 3 rfl) ?_
  obtain ⟨r3, h4, E5, hsp⟩ := fr_b2 hsp
  refine fl_cW (rest := []) C EX hN J (k_L_term C.2.2 hlt kx E5) Y_L_term YS_L_term Lk_RL_130 rfl hl.1 ⟨Nat.le_of_ble_eq_true rfl, Nat.le_of_ble_eq_true rfl⟩ rfl (Nat.le_of_ble_eq_true rfl) ⟨by show _ ≤ 601024; omega, by show _ ≤ 7293034; omega⟩ dL_law_791 (fun H locs J => ?_)
  refine lv_istore (lv' := [(5, .int r3), (0, .ref b), (1, .ref (g.2.2 x)), (2, .ref (g2.2.2 mo)), (3, .ref (g.2.2 o)), (4, .int i)]) hx hb dL_law_794 hl (by decide) rfl (fun ls hl => ?_)
  refine lv_aload_n hx hb dL_law_796 rfl (lv_at hl 3 rfl) ?_
  refine lv_aload_n hx hb dL_law_797 rfl (lv_at hl 1 rfl) ?_
  refine lv_iload hx hb dL_law_798 (lv_at hl 5 rfl) ?_
  refine lv_iconst (v := 1) hx hb dL_law_800 (by decide) ?_
  refine lv_iadd hx hb dL_law_801 ?_
  refine va_sld (A := fun q => s.heap.size ≤ q) (xs := xs) hx hb hX hbl (by omega) J.2.2.2.2.2 (fh_in_vp hi1) dL_law_802 ?_
  refine lv_aload_n hx hb dL_law_803 rfl (lv_at hl 1 rfl) ?_
  refine lv_iload hx hb dL_law_804 (lv_at hl 5 rfl) ?_
  refine lv_iconst (v := 2) hx hb dL_law_806 (by decide) ?_
  refine lv_iadd hx hb dL_law_807 ?_
  refine va_sld (A := fun q => s.heap.size ≤ q) (xs := xs) hx hb hX hbl (by omega) J.2.2.2.2.2 (fh_in_vp hi2) dL_law_808 ?_
  obtain ⟨r6, h8, E7, hsp⟩ := fr_b2 hsp
  refine fl_cV (rest := []) (st1 := [.int r6]) C2 J.swap (k_X12_term C2.2.2 km E7) Y_X12_term YV_X12_term Lk_RL_132 km ⟨_, _, rfl, by decide⟩ rfl hl.1 ⟨Nat.le_of_ble_eq_true rfl, Nat.le_of_ble_eq_true rfl⟩ rfl (Nat.le_of_ble_eq_true rfl) ⟨by show _ ≤ 601024; omega, by show _ ≤ 7293034; omega⟩ rfl dL_law_809 (fun H locs J => ?_)
  have J := J.swap
  refine lv_istore (lv' := [(6, .int r6), (5, .int r3), (0, .ref b), (1, .ref (g.2.2 x)), (2, .ref (g2.2.2 mo)), (3, .ref (g.2.2 o)), (4, .int i)]) hx hb dL_law_812 hl (by decide) rfl (fun ls hl => ?_)
  refine lv_aload_n hx hb dL_law_814 rfl (lv_at hl 4 rfl) ?_
  obtain ⟨r9, E10, hsp⟩ := fr_b1 hsp
  refine fl_cV (rest := []) (st1 := [.int r9]) C2 J.swap (k_X12_thrown C2.2.2 km E10) Y_X12_thrown YV_X12_thrown Lk_RL_89 km ⟨_, _, rfl, by decide⟩ rfl hl.1 ⟨Nat.le_of_ble_eq_true rfl, Nat.le_of_ble_eq_true rfl⟩ rfl (Nat.le_of_ble_eq_true rfl) ⟨by show _ ≤ 601024; omega, by show _ ≤ 7293034; omega⟩ rfl dL_law_815 (fun H locs J => ?_)
  have J := J.swap
  refine lv_iload hx hb dL_law_818 (lv_at hl 1 rfl) ?_
  refine lv_icmp_eq (tgt := 825) hx hb dL_law_820 (by decide) (fun c1 => ?_) (fun c1 => by rw [if_neg c1] at hsp; cases hsp)
  rw [if_pos c1] at hsp
  refine lv_iload hx hb dL_law_825 (lv_at hl 1 rfl) ?_
  refine lv_if_ne (tgt := 842) hx hb dL_law_827 (by decide) (fun c1 => ?_) (fun c1 => ?_)
  · rw [if_neg c1] at hsp
    refine lv_goto (tgt := 1922) hx hb dL_law_842 (by decide) ?_
    refine W.widen (k := cells + 8) (n := slots + 48) (by omega) (by omega) ?_
    exact hK h4 h8 _ _ _ hsp J (lv_sub hl [2, 3, 4, 5, 6] rfl)
  · rw [if_pos c1] at hsp
    refine lv_aload_n hx hb dL_law_830 rfl (lv_at hl 5 rfl) ?_
    refine lv_iconst (v := 0) hx hb dL_law_831 (by decide) ?_
    obtain ⟨hk11, hsp⟩ := fr_ck hsp
    obtain ⟨hi12, hsp⟩ := fr_ck hsp
    refine fr_lald C J.R hk11 hi12 dL_law_832 ?_
    refine lv_iload hx hb dL_law_833 (lv_at hl 0 rfl) ?_
    refine lv_i2l hx hb dL_law_835 rfl ?_
    refine fr_lc_eq (tgt := 842) hx hb dL_law_836 dL_law_837 (by decide) (fun c1 => ?_) (fun c1 => by rw [if_neg c1] at hsp; cases hsp)
    rw [if_pos c1] at hsp
    refine lv_goto (tgt := 1922) hx hb dL_law_842 (by decide) ?_
    refine W.widen (k := cells + 8) (n := slots + 48) (by omega) (by omega) ?_
    exact hK h4 h8 _ _ _ hsp J (lv_sub hl [2, 3, 4, 5, 6] rfl)

def z_law_12 (S S2 : fh_S) (x mo o : Nat) (xs : Nat → Int32) (L : Nat) (KK : fh_H → fh_H → Option Unit) (h h2 : fh_H) (i : Int32) : Option Unit :=
    fh_ck (fh_in (i + (1 : Int32)) L) (fh_ck (fh_in (i + (2 : Int32)) L) (fh_ck (fh_in (i + (3 : Int32)) L) (fh_let (if (xs (Int32.toNatClampNeg (i + (3 : Int32)))) = 0 then (0 : Int32) else 1) (fun w4 => fh_b2 (z_L_read S h x (xs (Int32.toNatClampNeg (i + (1 : Int32)))) (xs (Int32.toNatClampNeg (i + (2 : Int32)))) w4 o) (fun r5 h6 => fh_let (if (xs (Int32.toNatClampNeg (i + (3 : Int32)))) = 0 then (0 : Int32) else 1) (fun w8 => fh_b2 (z_X12_read S2 h2 mo (xs (Int32.toNatClampNeg (i + (1 : Int32)))) (xs (Int32.toNatClampNeg (i + (2 : Int32)))) w8) (fun r9 h11 => fh_b1 (z_X12_thrown S2 h11 mo) (fun r12 => if r12 = r5 then (if r5 = 0 then (fh_ck (fh_kq S o 14) (fh_ck (fh_in 0 (S.2.2 o)) (if (h6.2.1 o (Int32.toNatClampNeg 0)) = (Int32.toInt64 r9) then (KK h6 h11) else none))) else (KK h6 h11)) else none))))))))
set_option maxHeartbeats 4000000 in
set_option maxRecDepth 100000 in
theorem w_law_12 {p : Program} {l : Launch} {e : Env} {s : State} {m : MethodId} {below : List Frame} {meth : Method} {c : Code} {b L : Nat} {xs : Nat → Int32} {z : (Nat → Nat) × (Nat → Nat)} {S S2 : fh_S} {g g2 : fh_G} {x mo o : Nat} {Q : State → Prop} {h h2 : fh_H} {i : Int32} {H : Heap} {locs : List Loc} {cells slots : Nat} {ls : Array Slot} {KK : fh_H → fh_H → Option Unit} (F : fl_C p l s m c b L xs z S g S2 g2 x mo) (J : fl_J s S g h S2 g2 h2 H locs) (hc : cells + 8 ≤ 601024) (hs : slots + 48 ≤ 7293034) (hl : lv_has ls 8 [(0, .ref b), (1, .ref (g.2.2 x)), (2, .ref (g2.2.2 mo)), (3, .ref (g.2.2 o)), (4, .int i)]) (hsp : z_law_12 S S2 x mo o xs L KK h h2 i = some ())
    (hK : ∀ (h h2 : fh_H) (H : Heap) (locs : List Loc) (ls : Array Slot), KK h h2 = some () → fl_J s S g h S2 g2 h2 H locs → lv_has ls 8 [(0, .ref b), (1, .ref (g.2.2 x)), (2, .ref (g2.2.2 mo)), (3, .ref (g.2.2 o)), (4, .int i)] → W p l e room_1 s m #[.ref b] below meth c H locs (cells + 8) (slots + 48) Q (F0 m 1922 ls [])) : W p l e room_1 s m #[.ref b] below meth c H locs cells slots Q (F0 m 845 ls []) := by
  unfold z_law_12 at hsp
  obtain ⟨C, C2, EX, EX2, hN, hX, hbl, hlt, kx, km⟩ := F
  have hx := C.1.1
  have hb := C.1.2.1
  refine lv_aload_n hx hb dL_law_845 rfl (lv_at hl 1 rfl) ?_
  refine lv_aload_n hx hb dL_law_846 rfl (lv_at hl 0 rfl) ?_
  refine lv_iload hx hb dL_law_847 (lv_at hl 4 rfl) ?_
  refine lv_iconst (v := 1) hx hb dL_law_849 (by decide) ?_
  refine lv_iadd hx hb dL_law_850 ?_
  obtain ⟨hi1, hsp⟩ := fr_ck hsp
  refine va_sld (A := fun q => s.heap.size ≤ q) (xs := xs) hx hb hX hbl (by omega) J.2.2.2.2.2 (fh_in_vp hi1) dL_law_851 ?_
  refine lv_aload_n hx hb dL_law_852 rfl (lv_at hl 0 rfl) ?_
  refine lv_iload hx hb dL_law_853 (lv_at hl 4 rfl) ?_
  refine lv_iconst (v := 2) hx hb dL_law_855 (by decide) ?_
  refine lv_iadd hx hb dL_law_856 ?_
  obtain ⟨hi2, hsp⟩ := fr_ck hsp
  refine va_sld (A := fun q => s.heap.size ≤ q) (xs := xs) hx hb hX hbl (by omega) J.2.2.2.2.2 (fh_in_vp hi2) dL_law_857 ?_
  refine lv_aload_n hx hb dL_law_858 rfl (lv_at hl 0 rfl) ?_
  refine lv_iload hx hb dL_law_859 (lv_at hl 4 rfl) ?_
  refine lv_iconst (v := 3) hx hb dL_law_861 (by decide) ?_
  refine lv_iadd hx hb dL_law_862 ?_
  obtain ⟨hi3, hsp⟩ := fr_ck hsp
  refine va_sld (A := fun q => s.heap.size ≤ q) (xs := xs) hx hb hX hbl (by omega) J.2.2.2.2.2 (fh_in_vp hi3) dL_law_863 ?_
  obtain ⟨w4, ew4⟩ : ∃ z, z = (if (xs (Int32.toNatClampNeg (i + (3 : Int32)))) = 0 then (0 : Int32) else 1) := ⟨_, rfl⟩
  have hsp := fr_let ew4 hsp
  have hjoin : W p l e room_1 s m #[.ref b] below meth c H locs cells slots Q (F0 m 872 ls [.int w4, .int (xs (Int32.toNatClampNeg (i + (2 : Int32)))), .int (xs (Int32.toNatClampNeg (i + (1 : Int32)))), .ref (g.2.2 x)]) := ?_
  · refine lv_if_eq (tgt := 871) hx hb dL_law_864 (by decide) (fun c1 => ?_) (fun c1 => ?_)
    · rw [if_pos c1] at ew4; refine lv_iconst (v := 0) hx hb dL_law_871 (by decide) ?_; rw [ew4] at hjoin; exact hjoin
    · rw [if_neg c1] at ew4; refine lv_iconst (v := 1) hx hb dL_law_867 (by decide) ?_; refine lv_goto (tgt := 872) hx hb dL_law_868 (by decide) ?_; rw [ew4] at hjoin; exact hjoin
  refine lv_aload_n hx hb dL_law_872 rfl (lv_at hl 3 rfl) ?_
  obtain ⟨r5, h6, E7, hsp⟩ := fr_b2 hsp
  refine fl_cW (rest := []) C EX hN J (k_L_read C.2.2 hlt kx E7) Y_L_read YS_L_read Lk_RL_133 rfl hl.1 ⟨Nat.le_of_ble_eq_true rfl, Nat.le_of_ble_eq_true rfl⟩ rfl (Nat.le_of_ble_eq_true rfl) ⟨by show _ ≤ 601024; omega, by show _ ≤ 7293034; omega⟩ dL_law_873 (fun H locs J => ?_)
  refine lv_istore (lv' := [(5, .int r5), (0, .ref b), (1, .ref (g.2.2 x)), (2, .ref (g2.2.2 mo)), (3, .ref (g.2.2 o)), (4, .int i)]) hx hb dL_law_876 hl (by decide) rfl (fun ls hl => ?_)
  refine lv_aload_n hx hb dL_law_878 rfl (lv_at hl 3 rfl) ?_
  refine lv_aload_n hx hb dL_law_879 rfl (lv_at hl 1 rfl) ?_
  refine lv_iload hx hb dL_law_880 (lv_at hl 5 rfl) ?_
  refine lv_iconst (v := 1) hx hb dL_law_882 (by decide) ?_
  refine lv_iadd hx hb dL_law_883 ?_
  refine va_sld (A := fun q => s.heap.size ≤ q) (xs := xs) hx hb hX hbl (by omega) J.2.2.2.2.2 (fh_in_vp hi1) dL_law_884 ?_
  refine lv_aload_n hx hb dL_law_885 rfl (lv_at hl 1 rfl) ?_
  refine lv_iload hx hb dL_law_886 (lv_at hl 5 rfl) ?_
  refine lv_iconst (v := 2) hx hb dL_law_888 (by decide) ?_
  refine lv_iadd hx hb dL_law_889 ?_
  refine va_sld (A := fun q => s.heap.size ≤ q) (xs := xs) hx hb hX hbl (by omega) J.2.2.2.2.2 (fh_in_vp hi2) dL_law_890 ?_
  refine lv_aload_n hx hb dL_law_891 rfl (lv_at hl 1 rfl) ?_
  refine lv_iload hx hb dL_law_892 (lv_at hl 5 rfl) ?_
  refine lv_iconst (v := 3) hx hb dL_law_894 (by decide) ?_
  refine lv_iadd hx hb dL_law_895 ?_
  refine va_sld (A := fun q => s.heap.size ≤ q) (xs := xs) hx hb hX hbl (by omega) J.2.2.2.2.2 (fh_in_vp hi3) dL_law_896 ?_
  obtain ⟨w8, ew8⟩ : ∃ z, z = (if (xs (Int32.toNatClampNeg (i + (3 : Int32)))) = 0 then (0 : Int32) else 1) := ⟨_, rfl⟩
  have hsp := fr_let ew8 hsp
  have hjoin : W p l e room_1 s m #[.ref b] below meth c H locs (cells + 3) (slots + 6 * 3) Q (F0 m 905 ls [.int w8, .int (xs (Int32.toNatClampNeg (i + (2 : Int32)))), .int (xs (Int32.toNatClampNeg (i + (1 : Int32)))), .ref (g2.2.2 mo)]) := ?_
  · refine lv_if_eq (tgt := 904) hx hb dL_law_897 (by decide) (fun c1 => ?_) (fun c1 => ?_)
    · rw [if_pos c1] at ew8; refine lv_iconst (v := 0) hx hb dL_law_904 (by decide) ?_; rw [ew8] at hjoin; exact hjoin
    · rw [if_neg c1] at ew8; refine lv_iconst (v := 1) hx hb dL_law_900 (by decide) ?_; refine lv_goto (tgt := 905) hx hb dL_law_901 (by decide) ?_; rw [ew8] at hjoin; exact hjoin
  obtain ⟨r9, h11, E10, hsp⟩ := fr_b2 hsp
  refine fl_cV (rest := []) (st1 := [.int r9]) C2 J.swap (k_X12_read C2.2.2 km E10) Y_X12_read YV_X12_read Lk_RL_136 km ⟨_, _, rfl, by decide⟩ rfl hl.1 ⟨Nat.le_of_ble_eq_true rfl, Nat.le_of_ble_eq_true rfl⟩ rfl (Nat.le_of_ble_eq_true rfl) ⟨by show _ ≤ 601024; omega, by show _ ≤ 7293034; omega⟩ rfl dL_law_905 (fun H locs J => ?_)
  have J := J.swap
  refine lv_istore (lv' := [(6, .int r9), (5, .int r5), (0, .ref b), (1, .ref (g.2.2 x)), (2, .ref (g2.2.2 mo)), (3, .ref (g.2.2 o)), (4, .int i)]) hx hb dL_law_908 hl (by decide) rfl (fun ls hl => ?_)
  refine lv_aload_n hx hb dL_law_910 rfl (lv_at hl 4 rfl) ?_
  obtain ⟨r12, E13, hsp⟩ := fr_b1 hsp
  refine fl_cV (rest := []) (st1 := [.int r12]) C2 J.swap (k_X12_thrown C2.2.2 km E13) Y_X12_thrown YV_X12_thrown Lk_RL_89 km ⟨_, _, rfl, by decide⟩ rfl hl.1 ⟨Nat.le_of_ble_eq_true rfl, Nat.le_of_ble_eq_true rfl⟩ rfl (Nat.le_of_ble_eq_true rfl) ⟨by show _ ≤ 601024; omega, by show _ ≤ 7293034; omega⟩ rfl dL_law_911 (fun H locs J => ?_)
  have J := J.swap
  refine lv_iload hx hb dL_law_914 (lv_at hl 1 rfl) ?_
  refine lv_icmp_eq (tgt := 921) hx hb dL_law_916 (by decide) (fun c1 => ?_) (fun c1 => by rw [if_neg c1] at hsp; cases hsp)
  rw [if_pos c1] at hsp
  refine lv_iload hx hb dL_law_921 (lv_at hl 1 rfl) ?_
  refine lv_if_ne (tgt := 938) hx hb dL_law_923 (by decide) (fun c1 => ?_) (fun c1 => ?_)
  · rw [if_neg c1] at hsp
    refine lv_goto (tgt := 1922) hx hb dL_law_938 (by decide) ?_
    refine W.widen (k := cells + 8) (n := slots + 48) (by omega) (by omega) ?_
    exact hK h6 h11 _ _ _ hsp J (lv_sub hl [2, 3, 4, 5, 6] rfl)
  · rw [if_pos c1] at hsp
    refine lv_aload_n hx hb dL_law_926 rfl (lv_at hl 5 rfl) ?_
    refine lv_iconst (v := 0) hx hb dL_law_927 (by decide) ?_
    obtain ⟨hk14, hsp⟩ := fr_ck hsp
    obtain ⟨hi15, hsp⟩ := fr_ck hsp
    refine fr_lald C J.R hk14 hi15 dL_law_928 ?_
    refine lv_iload hx hb dL_law_929 (lv_at hl 0 rfl) ?_
    refine lv_i2l hx hb dL_law_931 rfl ?_
    refine fr_lc_eq (tgt := 938) hx hb dL_law_932 dL_law_933 (by decide) (fun c1 => ?_) (fun c1 => by rw [if_neg c1] at hsp; cases hsp)
    rw [if_pos c1] at hsp
    refine lv_goto (tgt := 1922) hx hb dL_law_938 (by decide) ?_
    refine W.widen (k := cells + 8) (n := slots + 48) (by omega) (by omega) ?_
    exact hK h6 h11 _ _ _ hsp J (lv_sub hl [2, 3, 4, 5, 6] rfl)
