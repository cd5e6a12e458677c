/-! the class's count of bits, step by step -/
theorem bs1 (m : Int64) : bT (m - ((Int64.toUInt64 m >>> ((Int32.toInt64 (1 : Int32)).toUInt64 &&& Int64.toUInt64 63)).toInt64 &&& (6148914691236517205 : Int64))) = bw1 8 (bT m) := by
  have s : ((Int32.toInt64 (1 : Int32)).toUInt64 &&& Int64.toUInt64 63).toNat % 64 = 1 := by decide +kernel
  have m1 : bT (6148914691236517205 : Int64) = bm 85 8 := by decide +kernel
  have q : bT ((Int64.toUInt64 m >>> ((Int32.toInt64 (1 : Int32)).toUInt64 &&& Int64.toUInt64 63)).toInt64 &&& (6148914691236517205 : Int64)) = (bT m / 2) &&& bm 85 8 := by rw [bT_and, bT_shr m s, m1, Nat.pow_one]
  rw [bT_sub (by rw [q]; exact bwm_le 8 _), q, bw1]
theorem bs2 (v : Int64) : bT ((v &&& (3689348814741910323 : Int64)) + ((Int64.toUInt64 v >>> ((Int32.toInt64 (2 : Int32)).toUInt64 &&& Int64.toUInt64 63)).toInt64 &&& (3689348814741910323 : Int64))) = bw2 8 (bT v) ∧ bw2 8 (bT v) ≤ 7378697629483820646 := by
  have s : ((Int32.toInt64 (2 : Int32)).toUInt64 &&& Int64.toUInt64 63).toNat % 64 = 2 := by decide +kernel
  have m1 : bT (3689348814741910323 : Int64) = bm 51 8 := by decide +kernel
  have p4 : (2 : Nat) ^ 2 = 4 := by decide
  have q : bT ((Int64.toUInt64 v >>> ((Int32.toInt64 (2 : Int32)).toUInt64 &&& Int64.toUInt64 63)).toInt64 &&& (3689348814741910323 : Int64)) = (bT v / 4) &&& bm 51 8 := by rw [bT_and, bT_shr v s, m1, p4]
  have q2 : bT (v &&& (3689348814741910323 : Int64)) = bT v &&& bm 51 8 := by rw [bT_and, m1]
  have b5 : bm 51 8 = 3689348814741910323 := by decide +kernel
  have q3 : (bT v / 4) &&& bm 51 8 ≤ 3689348814741910323 := Nat.le_trans Nat.and_le_right (Nat.le_of_eq b5)
  have q4 : bT v &&& bm 51 8 ≤ 3689348814741910323 := Nat.le_trans Nat.and_le_right (Nat.le_of_eq b5)
  constructor
  · rw [bT_add (by rw [q, q2]; exact Nat.lt_of_le_of_lt (Nat.add_le_add q4 q3) (by decide +kernel)), q, q2, bw2]
  · rw [bw2]; exact Nat.le_trans (Nat.add_le_add q4 q3) (by decide +kernel)
theorem bs3 (v : Int64) (h : bT v ≤ 7378697629483820646) : bT ((v + (Int64.toUInt64 v >>> ((Int32.toInt64 (4 : Int32)).toUInt64 &&& Int64.toUInt64 63)).toInt64) &&& (1085102592571150095 : Int64)) = bw3 8 (bT v) := by
  have s : ((Int32.toInt64 (4 : Int32)).toUInt64 &&& Int64.toUInt64 63).toNat % 64 = 4 := by decide +kernel
  have m1 : bT (1085102592571150095 : Int64) = bm 15 8 := by decide +kernel
  have p4 : (2 : Nat) ^ 4 = 16 := by decide
  have q := bT_shr v s
  rw [p4] at q
  rw [bT_and, m1, bT_add (by rw [q]; exact Nat.lt_of_le_of_lt (Nat.add_le_add h (Nat.le_trans (Nat.div_le_self _ _) h)) (by decide +kernel)), q, bw3]
theorem bs4 (v : Int64) {s : UInt64} {k : Nat} (hs : s.toNat % 64 = k) (h : bT v ≤ 7378697629483820646) : bT (v + (Int64.toUInt64 v >>> s).toInt64) = bT v + bT v / 2 ^ k := by
  have q := bT_shr v hs
  rw [bT_add (by rw [q]; exact Nat.lt_of_le_of_lt (Nat.add_le_add h (Nat.le_trans (Nat.div_le_self _ _) h)) (by decide +kernel)), q]
theorem bfin {c0 c1 c2 c3 c4 c5 c6 c7 x : Nat} (l0 : c0 ≤ 8) (l1 : c1 ≤ 8) (l2 : c2 ≤ 8) (l3 : c3 ≤ 8) (l4 : c4 ≤ 8) (l5 : c5 ≤ 8) (l6 : c6 ≤ 8) (l7 : c7 ≤ 8) (hx : x = c0 + 256 * (c1 + 256 * (c2 + 256 * (c3 + 256 * (c4 + 256 * (c5 + 256 * (c6 + 256 * c7))))))) :
    x ≤ 7378697629483820646 ∧ x + x / 256 ≤ 7378697629483820646 ∧ (x + x / 256) + (x + x / 256) / 65536 ≤ 7378697629483820646 ∧ (((x + x / 256) + (x + x / 256) / 65536) + ((x + x / 256) + (x + x / 256) / 65536) / 4294967296) % 128 = c0 + c1 + c2 + c3 + c4 + c5 + c6 + c7 := by
  obtain ⟨p6, e6⟩ : ∃ p, p = c6 + 256 * c7 := ⟨_, rfl⟩
  obtain ⟨p5, e5⟩ : ∃ p, p = c5 + 256 * p6 := ⟨_, rfl⟩
  obtain ⟨p4, e4⟩ : ∃ p, p = c4 + 256 * p5 := ⟨_, rfl⟩
  obtain ⟨p3, e3⟩ : ∃ p, p = c3 + 256 * p4 := ⟨_, rfl⟩
  obtain ⟨p2, e2⟩ : ∃ p, p = c2 + 256 * p3 := ⟨_, rfl⟩
  obtain ⟨p1, e1⟩ : ∃ p, p = c1 + 256 * p2 := ⟨_, rfl⟩
  rw [← e6, ← e5, ← e4, ← e3, ← e2, ← e1] at hx
  have b6 : p6 ≤ 2056 := by omega
  have b5 : p5 ≤ 526344 := by clear e6; omega
  have b4 : p4 ≤ 134744072 := by clear e6 e5; omega
  have b3 : p3 ≤ 34494482440 := by clear e6 e5 e4; omega
  have b2 : p2 ≤ 8830587504648 := by clear e6 e5 e4 e3; omega
  have b1 : p1 ≤ 2260630401189896 := by clear e6 e5 e4 e3 e2; omega
  have d1 : x / 256 = p1 := by clear e6 e5 e4 e3 e2 e1; omega
  have y1 : x + x / 256 = (c0 + c1) + 256 * (c1 + c2) + 65536 * (p2 + p3) := by
    rw [d1]; clear e6 e5 e4 d1; omega
  have d2 : (x + x / 256) / 65536 = p2 + p3 := by
    rw [y1]; clear e6 e5 e4 e3 e2 e1 d1 y1 hx; omega
  have z1 : (x + x / 256) + (x + x / 256) / 65536 = (c0 + c1 + c2 + c3) + 256 * (c1 + c2 + c3 + c4) + 65536 * (c2 + c3 + c4 + c5) + 16777216 * (c3 + c4 + c5 + c6) + 4294967296 * (p4 + p5 + p6 + c7) := by
    rw [d2, y1]; clear d1 y1 d2 hx; omega
  have d3 : ((x + x / 256) + (x + x / 256) / 65536) / 4294967296 = p4 + p5 + p6 + c7 := by
    rw [z1]; clear e6 e5 e4 e3 e2 e1 d1 y1 d2 hx z1; omega
  refine ⟨by clear e6 e5 e4 e3 e2 e1 d1 y1 d2 z1 d3; omega, by rw [y1]; clear e6 e5 e4 e3 e2 e1 d1 y1 d2 z1 d3 hx; omega, by rw [z1]; clear e6 e5 e4 e3 e2 e1 d1 y1 d2 z1 d3 hx; omega, ?_⟩
  rw [d3, z1]
  clear d1 y1 d2 z1 d3 hx
  rw [e4, e5, e6]
  clear e3 e2 e1 e4 e5 e6 b1 b2 b3 b4 b5 b6
  omega
theorem bitC (m : Int64) : z_J13_bitCount_95d88 m = some (nI (bcn (fun i => m.toBitVec.getLsbD i) 64)) := by
  obtain ⟨c0, c1, c2, c3, c4, c5, c6, c7, l0, l1, l2, l3, l4, l5, l6, l7, hw, hc⟩ := bwa_8 (bT m) (bT_lt m)
  have hb : bcn (fun i => m.toBitVec.getLsbD i) 64 = c0 + c1 + c2 + c3 + c4 + c5 + c6 + c7 := hc
  have s8 : ((Int32.toInt64 (8 : Int32)).toUInt64 &&& Int64.toUInt64 63).toNat % 64 = 8 := by decide +kernel
  have s16 : ((Int32.toInt64 (16 : Int32)).toUInt64 &&& Int64.toUInt64 63).toNat % 64 = 16 := by decide +kernel
  have s32 : ((Int32.toInt64 (32 : Int32)).toUInt64 &&& Int64.toUInt64 63).toNat % 64 = 32 := by decide +kernel
  have p8 : (2 : Nat) ^ 8 = 256 := by decide
  have p16 : (2 : Nat) ^ 16 = 65536 := by decide
  have p32 : (2 : Nat) ^ 32 = 4294967296 := by decide
  rw [hb]
  unfold z_J13_bitCount_95d88
  have t1 := bs1 m
  revert t1
  generalize (m - ((Int64.toUInt64 m >>> ((Int32.toInt64 (1 : Int32)).toUInt64 &&& Int64.toUInt64 63)).toInt64 &&& (6148914691236517205 : Int64))) = v1
  intro t1
  rw [let_N]
  have t2 := bs2 v1
  revert t2
  generalize ((v1 &&& (3689348814741910323 : Int64)) + ((Int64.toUInt64 v1 >>> ((Int32.toInt64 (2 : Int32)).toUInt64 &&& Int64.toUInt64 63)).toInt64 &&& (3689348814741910323 : Int64))) = v2
  intro t2
  rw [let_N]
  have t3 := bs3 v2 (by rw [t2.1]; exact t2.2)
  revert t3
  generalize ((v2 + (Int64.toUInt64 v2 >>> ((Int32.toInt64 (4 : Int32)).toUInt64 &&& Int64.toUInt64 63)).toInt64) &&& (1085102592571150095 : Int64)) = v3
  intro t3
  rw [let_N]
  have hv3 : bT v3 = c0 + 256 * (c1 + 256 * (c2 + 256 * (c3 + 256 * (c4 + 256 * (c5 + 256 * (c6 + 256 * c7)))))) := by rw [t3, t2.1, t1]; exact hw
  obtain ⟨f1, f2, f3, f4⟩ := bfin l0 l1 l2 l3 l4 l5 l6 l7 hv3
  clear hw hc hb hv3 t1 t2 t3
  have t4 := bs4 v3 s8 f1
  rw [p8] at t4
  revert t4
  generalize (v3 + (Int64.toUInt64 v3 >>> ((Int32.toInt64 (8 : Int32)).toUInt64 &&& Int64.toUInt64 63)).toInt64) = v4
  intro t4
  rw [let_N]
  rw [← t4] at f2 f3 f4
  have t5 := bs4 v4 s16 f2
  rw [p16] at t5
  revert t5
  generalize (v4 + (Int64.toUInt64 v4 >>> ((Int32.toInt64 (16 : Int32)).toUInt64 &&& Int64.toUInt64 63)).toInt64) = v5
  intro t5
  rw [let_N]
  rw [← t5] at f3 f4
  have t6 := bs4 v5 s32 f3
  rw [p32] at t6
  revert t6
  generalize (v5 + (Int64.toUInt64 v5 >>> ((Int32.toInt64 (32 : Int32)).toUInt64 &&& Int64.toUInt64 63)).toInt64) = v6
  intro t6
  rw [let_N]
  rw [← t6] at f4
  rw [bit_n f4]
