/-! the shape of the class's heap -/
def iA : Option (fh_S × fh_H) := z_X11_init (fh_push z_S0 11 0) (fh_z z_h0 z_S0.1) 0
set_option maxRecDepth 100000 in
theorem iA_s : iA.isSome = true := by decide +kernel
def iAp : fh_S × fh_H := iA.get iA_s
theorem iA_e : z_X11_init (fh_push z_S0 11 0) (fh_z z_h0 z_S0.1) 0 = some iAp := (Option.some_get iA_s).symm
def SA : fh_S := fh_push iAp.1 14 1
def hA0 : fh_H := fh_z iAp.2 iAp.1.1
set_option maxRecDepth 100000 in
theorem iA_n : iAp.1.1 = 118 := by decide +kernel
set_option maxRecDepth 100000 in
theorem kA_all : ((List.range 119).map SA.2.1) = [11,16,6,13,13,13,3,13,1,16,15] ++ (List.replicate 16 [3,13]).flatten ++ [5,0,0,9,2,10,13,13,13,13,7,13,4,8,13] ++ (List.replicate 10 [6,13,13,13,3,13]).flatten ++ [14] := by decide +kernel
set_option maxRecDepth 100000 in
theorem SA_1 : SA.1 = 119 := by decide +kernel
set_option maxRecDepth 100000 in
theorem lA_all : ((List.range 119).map SA.2.2) = [0,10,0,60,60,60,0,60,0,16,16] ++ (List.replicate 16 [0,60]).flatten ++ [0,0,0,0,0,0,200,201,201,201,0,60,0,0,800] ++ (List.replicate 10 [0,60,60,60,0,60]).flatten ++ [1] := by decide +kernel
theorem kA_of {b k : Nat} (hb : b < 119) (h : ([11,16,6,13,13,13,3,13,1,16,15] ++ (List.replicate 16 [3,13]).flatten ++ [5,0,0,9,2,10,13,13,13,13,7,13,4,8,13] ++ (List.replicate 10 [6,13,13,13,3,13]).flatten ++ [14])[b]? = some k) : fh_kq SA b k = true := by
  rw [← kA_all, List.getElem?_map, List.getElem?_range hb] at h
  have h2 : SA.2.1 b = k := by simpa using h
  simp [fh_kq, SA_1, hb, h2]
theorem lA_of {b k : Nat} (hb : b < 119) (h : ([0,10,0,60,60,60,0,60,0,16,16] ++ (List.replicate 16 [0,60]).flatten ++ [0,0,0,0,0,0,200,201,201,201,0,60,0,0,800] ++ (List.replicate 10 [0,60,60,60,0,60]).flatten ++ [1])[b]? = some k) : SA.2.2 b = k := by
  rw [← lA_all, List.getElem?_map, List.getElem?_range hb] at h
  simpa using h
theorem kA_0 : fh_kq SA 0 11 = true := kA_of (by decide) rfl
theorem kA_1 : fh_kq SA 1 16 = true := kA_of (by decide) rfl
theorem lA_1 : SA.2.2 1 = 10 := lA_of (by decide) rfl
theorem kA_2 : fh_kq SA 2 6 = true := kA_of (by decide) rfl
theorem kA_3 : fh_kq SA 3 13 = true := kA_of (by decide) rfl
theorem lA_3 : SA.2.2 3 = 60 := lA_of (by decide) rfl
theorem kA_4 : fh_kq SA 4 13 = true := kA_of (by decide) rfl
theorem lA_4 : SA.2.2 4 = 60 := lA_of (by decide) rfl
theorem kA_5 : fh_kq SA 5 13 = true := kA_of (by decide) rfl
theorem lA_5 : SA.2.2 5 = 60 := lA_of (by decide) rfl
theorem kA_8 : fh_kq SA 8 1 = true := kA_of (by decide) rfl
theorem kA_9 : fh_kq SA 9 16 = true := kA_of (by decide) rfl
theorem lA_9 : SA.2.2 9 = 16 := lA_of (by decide) rfl
theorem kA_10 : fh_kq SA 10 15 = true := kA_of (by decide) rfl
theorem lA_10 : SA.2.2 10 = 16 := lA_of (by decide) rfl
theorem kA_43 : fh_kq SA 43 5 = true := kA_of (by decide) rfl
theorem kA_44 : fh_kq SA 44 0 = true := kA_of (by decide) rfl
theorem kA_45 : fh_kq SA 45 0 = true := kA_of (by decide) rfl
theorem kA_46 : fh_kq SA 46 9 = true := kA_of (by decide) rfl
theorem kA_47 : fh_kq SA 47 2 = true := kA_of (by decide) rfl
theorem kA_48 : fh_kq SA 48 10 = true := kA_of (by decide) rfl
theorem kA_49 : fh_kq SA 49 13 = true := kA_of (by decide) rfl
theorem lA_49 : SA.2.2 49 = 200 := lA_of (by decide) rfl
theorem kA_50 : fh_kq SA 50 13 = true := kA_of (by decide) rfl
theorem lA_50 : SA.2.2 50 = 201 := lA_of (by decide) rfl
theorem kA_51 : fh_kq SA 51 13 = true := kA_of (by decide) rfl
theorem lA_51 : SA.2.2 51 = 201 := lA_of (by decide) rfl
theorem kA_52 : fh_kq SA 52 13 = true := kA_of (by decide) rfl
theorem lA_52 : SA.2.2 52 = 201 := lA_of (by decide) rfl
theorem kA_53 : fh_kq SA 53 7 = true := kA_of (by decide) rfl
theorem kA_54 : fh_kq SA 54 13 = true := kA_of (by decide) rfl
theorem lA_54 : SA.2.2 54 = 60 := lA_of (by decide) rfl
theorem kA_55 : fh_kq SA 55 4 = true := kA_of (by decide) rfl
theorem kA_56 : fh_kq SA 56 8 = true := kA_of (by decide) rfl
theorem kA_57 : fh_kq SA 57 13 = true := kA_of (by decide) rfl
theorem lA_57 : SA.2.2 57 = 800 := lA_of (by decide) rfl
theorem kA_118 : fh_kq SA 118 14 = true := kA_of (by decide) rfl
theorem lA_118 : SA.2.2 118 = 1 := lA_of (by decide) rfl
/-- numbers of rows (and of the trial row), of what rows are -/
def rwA (a : Nat) : Prop := a = 2 ∨ ∃ r, r < 10 ∧ a = 58 + 6 * r
def mdA (m : Nat) : Prop := m = 6 ∨ (∃ i, i < 16 ∧ m = 11 + 2 * i) ∨ ∃ r, r < 10 ∧ m = 62 + 6 * r
theorem kr_all : ∀ r, r < 10 → ∀ i, i < 6 → ([11,16,6,13,13,13,3,13,1,16,15] ++ (List.replicate 16 [3,13]).flatten ++ [5,0,0,9,2,10,13,13,13,13,7,13,4,8,13] ++ (List.replicate 10 [6,13,13,13,3,13]).flatten ++ [14])[58 + 6 * r + i]? = some ([6,13,13,13,3,13].getD i 0) := by decide +kernel
theorem lr_all : ∀ r, r < 10 → ∀ i, i < 6 → ([0,10,0,60,60,60,0,60,0,16,16] ++ (List.replicate 16 [0,60]).flatten ++ [0,0,0,0,0,0,200,201,201,201,0,60,0,0,800] ++ (List.replicate 10 [0,60,60,60,0,60]).flatten ++ [1])[58 + 6 * r + i]? = some ([0,60,60,60,0,60].getD i 0) := by decide +kernel
theorem km_all : ∀ i, i < 16 → ∀ d, d < 2 → ([11,16,6,13,13,13,3,13,1,16,15] ++ (List.replicate 16 [3,13]).flatten ++ [5,0,0,9,2,10,13,13,13,13,7,13,4,8,13] ++ (List.replicate 10 [6,13,13,13,3,13]).flatten ++ [14])[11 + 2 * i + d]? = some ([3,13].getD d 0) := by decide +kernel
theorem lm_all : ∀ i, i < 16 → ∀ d, d < 2 → ([0,10,0,60,60,60,0,60,0,16,16] ++ (List.replicate 16 [0,60]).flatten ++ [0,0,0,0,0,0,200,201,201,201,0,60,0,0,800] ++ (List.replicate 10 [0,60,60,60,0,60]).flatten ++ [1])[11 + 2 * i + d]? = some ([0,60].getD d 0) := by decide +kernel
theorem rwA_k {a : Nat} (h : rwA a) : fh_kq SA a 6 = true ∧ fh_kq SA (a + 1) 13 = true ∧ fh_kq SA (a + 2) 13 = true ∧ fh_kq SA (a + 3) 13 = true := by
  rcases h with rfl | ⟨r, hr, rfl⟩
  · exact ⟨kA_2, kA_3, kA_4, kA_5⟩
  · exact ⟨kA_of (by omega) (kr_all r hr 0 (by omega)), kA_of (by omega) (kr_all r hr 1 (by omega)), kA_of (by omega) (kr_all r hr 2 (by omega)), kA_of (by omega) (kr_all r hr 3 (by omega))⟩
theorem rwA_l {a : Nat} (h : rwA a) : SA.2.2 (a + 1) = 60 ∧ SA.2.2 (a + 2) = 60 ∧ SA.2.2 (a + 3) = 60 := by
  rcases h with rfl | ⟨r, hr, rfl⟩
  · exact ⟨lA_3, lA_4, lA_5⟩
  · exact ⟨lA_of (by omega) (lr_all r hr 1 (by omega)), lA_of (by omega) (lr_all r hr 2 (by omega)), lA_of (by omega) (lr_all r hr 3 (by omega))⟩
theorem mdA_k {m : Nat} (h : mdA m) : fh_kq SA m 3 = true ∧ fh_kq SA (m + 1) 13 = true ∧ SA.2.2 (m + 1) = 60 := by
  rcases h with rfl | ⟨i, hi, rfl⟩ | ⟨r, hr, rfl⟩
  · exact ⟨kA_of (by decide) rfl, kA_of (by decide) rfl, lA_of (by decide) rfl⟩
  · exact ⟨kA_of (by omega) (km_all i hi 0 (by omega)), kA_of (by omega) (km_all i hi 1 (by omega)), lA_of (by omega) (lm_all i hi 1 (by omega))⟩
  · rw [show 62 + 6 * r = 58 + 6 * r + 4 by omega]
    exact ⟨kA_of (by omega) (kr_all r hr 4 (by omega)), kA_of (by omega) (kr_all r hr 5 (by omega)), lA_of (by omega) (lr_all r hr 5 (by omega))⟩
/-- references that never change -/
def rAl : List (Nat × Nat × Nat) := [(0, 0, 1), (0, 1, 2), (0, 2, 8), (0, 3, 43), (0, 4, 46), (0, 5, 47), (0, 6, 48), (0, 7, 53), (0, 8, 55), (0, 9, 56), (1, 0, 58), (1, 1, 64), (1, 2, 70), (1, 3, 76), (1, 4, 82), (1, 5, 88), (1, 6, 94), (1, 7, 100), (1, 8, 106), (1, 9, 112), (2, 1, 3), (2, 2, 4), (2, 3, 5), (58, 1, 59), (58, 2, 60), (58, 3, 61), (64, 1, 65), (64, 2, 66), (64, 3, 67), (70, 1, 71), (70, 2, 72), (70, 3, 73), (76, 1, 77), (76, 2, 78), (76, 3, 79), (82, 1, 83), (82, 2, 84), (82, 3, 85), (88, 1, 89), (88, 2, 90), (88, 3, 91), (94, 1, 95), (94, 2, 96), (94, 3, 97), (100, 1, 101), (100, 2, 102), (100, 3, 103), (106, 1, 107), (106, 2, 108), (106, 3, 109), (112, 1, 113), (112, 2, 114), (112, 3, 115), (6, 8, 7), (11, 8, 12), (13, 8, 14), (15, 8, 16), (17, 8, 18), (19, 8, 20), (21, 8, 22), (23, 8, 24), (25, 8, 26), (27, 8, 28), (29, 8, 30), (31, 8, 32), (33, 8, 34), (35, 8, 36), (37, 8, 38), (39, 8, 40), (41, 8, 42), (62, 8, 63), (68, 8, 69), (74, 8, 75), (80, 8, 81), (86, 8, 87), (92, 8, 93), (98, 8, 99), (104, 8, 105), (110, 8, 111), (116, 8, 117), (8, 0, 9), (8, 1, 10), (48, 0, 49), (48, 1, 50), (48, 2, 51), (48, 3, 52), (53, 0, 48), (53, 1, 54), (55, 0, 48), (56, 0, 57)]
def RA (R : Nat → Nat → Option Nat) : Prop := ∀ q ∈ rAl, R q.1 q.2.1 = some q.2.2
theorem RA.up {R : Nat → Nat → Option Nat} {b j : Nat} {v : Option Nat} (h : RA R) (hd : ∀ q ∈ rAl, ¬ (q.1 = b ∧ q.2.1 = j)) : RA (fh_up R b j v) := fun q hq => by
  simp only [fh_up, hd q hq, if_false]; exact h q hq
theorem rA_0_0 {R : Nat → Nat → Option Nat} (h : RA R) : R 0 0 = some 1 := h (0, 0, 1) (by decide)
theorem rA_0_1 {R : Nat → Nat → Option Nat} (h : RA R) : R 0 1 = some 2 := h (0, 1, 2) (by decide)
theorem rA_0_2 {R : Nat → Nat → Option Nat} (h : RA R) : R 0 2 = some 8 := h (0, 2, 8) (by decide)
theorem rA_0_3 {R : Nat → Nat → Option Nat} (h : RA R) : R 0 3 = some 43 := h (0, 3, 43) (by decide)
theorem rA_0_4 {R : Nat → Nat → Option Nat} (h : RA R) : R 0 4 = some 46 := h (0, 4, 46) (by decide)
theorem rA_0_5 {R : Nat → Nat → Option Nat} (h : RA R) : R 0 5 = some 47 := h (0, 5, 47) (by decide)
theorem rA_0_6 {R : Nat → Nat → Option Nat} (h : RA R) : R 0 6 = some 48 := h (0, 6, 48) (by decide)
theorem rA_0_7 {R : Nat → Nat → Option Nat} (h : RA R) : R 0 7 = some 53 := h (0, 7, 53) (by decide)
theorem rA_0_8 {R : Nat → Nat → Option Nat} (h : RA R) : R 0 8 = some 55 := h (0, 8, 55) (by decide)
theorem rA_0_9 {R : Nat → Nat → Option Nat} (h : RA R) : R 0 9 = some 56 := h (0, 9, 56) (by decide)
theorem rA_8_0 {R : Nat → Nat → Option Nat} (h : RA R) : R 8 0 = some 9 := h (8, 0, 9) (by decide)
theorem rA_8_1 {R : Nat → Nat → Option Nat} (h : RA R) : R 8 1 = some 10 := h (8, 1, 10) (by decide)
theorem rA_48_0 {R : Nat → Nat → Option Nat} (h : RA R) : R 48 0 = some 49 := h (48, 0, 49) (by decide)
theorem rA_48_1 {R : Nat → Nat → Option Nat} (h : RA R) : R 48 1 = some 50 := h (48, 1, 50) (by decide)
theorem rA_48_2 {R : Nat → Nat → Option Nat} (h : RA R) : R 48 2 = some 51 := h (48, 2, 51) (by decide)
theorem rA_48_3 {R : Nat → Nat → Option Nat} (h : RA R) : R 48 3 = some 52 := h (48, 3, 52) (by decide)
theorem rA_53_0 {R : Nat → Nat → Option Nat} (h : RA R) : R 53 0 = some 48 := h (53, 0, 48) (by decide)
theorem rA_53_1 {R : Nat → Nat → Option Nat} (h : RA R) : R 53 1 = some 54 := h (53, 1, 54) (by decide)
theorem rA_55_0 {R : Nat → Nat → Option Nat} (h : RA R) : R 55 0 = some 48 := h (55, 0, 48) (by decide)
theorem rA_56_0 {R : Nat → Nat → Option Nat} (h : RA R) : R 56 0 = some 57 := h (56, 0, 57) (by decide)
theorem rA_row {R : Nat → Nat → Option Nat} (h : RA R) {r : Nat} (hr : r < 10) : R 1 r = some (58 + 6 * r) := h (1, r, 58 + 6 * r) ((show ∀ r, r < 10 → (1, r, 58 + 6 * r) ∈ rAl by decide +kernel) r hr)
theorem rA_arr {R : Nat → Nat → Option Nat} (h : RA R) {a : Nat} (ha : rwA a) : R a 1 = some (a + 1) ∧ R a 2 = some (a + 2) ∧ R a 3 = some (a + 3) := by
  rcases ha with rfl | ⟨r, hr, rfl⟩
  · exact ⟨h (2, 1, 3) (by decide), h (2, 2, 4) (by decide), h (2, 3, 5) (by decide)⟩
  · have := (show ∀ r, r < 10 → (58 + 6 * r, 1, 58 + 6 * r + 1) ∈ rAl ∧ (58 + 6 * r, 2, 58 + 6 * r + 2) ∈ rAl ∧ (58 + 6 * r, 3, 58 + 6 * r + 3) ∈ rAl by decide +kernel) r hr
    exact ⟨h _ this.1, h _ this.2.1, h _ this.2.2⟩
theorem rA_md {R : Nat → Nat → Option Nat} (h : RA R) {m : Nat} (hm : mdA m) : R m 8 = some (m + 1) := by
  rcases hm with rfl | ⟨i, hi, rfl⟩ | ⟨r, hr, rfl⟩
  · exact h (6, 8, 7) (by decide)
  · exact h _ ((show ∀ i, i < 16 → (11 + 2 * i, 8, 11 + 2 * i + 1) ∈ rAl by decide +kernel) i hi)
  · exact h _ ((show ∀ r, r < 10 → (62 + 6 * r, 8, 62 + 6 * r + 1) ∈ rAl by decide +kernel) r hr)
theorem RA_made {R : Nat → Nat → Option Nat} (h : RA R) {a : Nat} (ha : rwA a) (v : Option Nat) : RA (fh_up R a 4 v) := by
  refine h.up ?_
  rcases ha with rfl | ⟨r, hr, rfl⟩
  · decide +kernel
  · exact (show ∀ r, r < 10 → ∀ q ∈ rAl, ¬ (q.1 = 58 + 6 * r ∧ q.2.1 = 4) by decide +kernel) r hr
theorem RA_43 {R : Nat → Nat → Option Nat} (h : RA R) (j : Nat) (v : Option Nat) : RA (fh_up R 43 j v) := h.up (fun q hq hc => absurd hc.1 ((show ∀ q ∈ rAl, ¬ q.1 = 43 by decide +kernel) q hq))
theorem RA_9 {R : Nat → Nat → Option Nat} (h : RA R) (j : Nat) (v : Option Nat) : RA (fh_up R 9 j v) := h.up (fun q hq hc => absurd hc.1 ((show ∀ q ∈ rAl, ¬ q.1 = 9 by decide +kernel) q hq))
theorem RA_10 {R : Nat → Nat → Option Nat} (h : RA R) (j : Nat) (v : Option Nat) : RA (fh_up R 10 j v) := h.up (fun q hq hc => absurd hc.1 ((show ∀ q ∈ rAl, ¬ q.1 = 10 by decide +kernel) q hq))
theorem RA_55 {R : Nat → Nat → Option Nat} (h : RA R) (v : Option Nat) : RA (fh_up R 55 1 v) := h.up (by decide +kernel)
set_option maxRecDepth 100000 in
theorem RA_0 : RA hA0.2.2 := by
  unfold RA
  decide +kernel
