/-! both made -/
def FA2 : List (Nat × Nat × Nat × Int32) := [(100, 0, 9, 1), (100, 0, 8, 1), (100, 0, 7, 1), (100, 0, 6, 1), (100, 0, 5, 1), (100, 0, 4, 1), (100, 0, 3, 1), (100, 0, 2, 1), (100, 0, 1, 1), (100, 0, 0, 1), (11, 0, 9, 1), (11, 0, 8, 100), (11, 0, 7, 14)]
def RA2 : List (Nat × Nat × Nat × Nat) := [(11, 0, 18, 0), (11, 0, 17, 0), (11, 0, 16, 0), (0, 0, 7, 0), (0, 0, 6, 0), (0, 0, 5, 0), (0, 0, 3, 0), (0, 0, 1, 0), (0, 0, 0, 0), (11, 0, 15, 0), (2, 0, 2, 0), (2, 0, 1, 0), (2, 0, 0, 0), (11, 0, 14, 0), (6, 0, 0, 0), (11, 0, 13, 1), (9, 1, 0, 1), (11, 0, 12, 0), (9, 0, 0, 0), (11, 0, 10, 0), (11, 0, 4, 0), (11, 0, 2, 0), (11, 0, 0, 0)]
def NA2 : List Nat := [1218, 1217, 107, 106, 105, 103, 101, 100, 0, 302, 301, 300, 2, 700, 6, 1000, 9, 1000, 9, 1210, 1204, 1202, 1200, 11]
def FB2 : List (Nat × Nat × Nat × Int32) := [(1345, 0, 9, 1), (1345, 0, 8, 1), (1345, 0, 7, 1), (1345, 0, 6, 1), (1345, 0, 5, 1), (1345, 0, 4, 1), (1345, 0, 3, 1), (1345, 0, 2, 1), (1345, 0, 1, 1), (1345, 0, 0, 1), (12, 0, 55, 1), (12, 0, 41, 100), (12, 0, 40, 14), (100, 0, 9, 1), (100, 0, 8, 1), (100, 0, 7, 1), (100, 0, 6, 1), (100, 0, 5, 1), (100, 0, 4, 1), (100, 0, 3, 1), (100, 0, 2, 1), (100, 0, 1, 1), (100, 0, 0, 1), (11, 0, 9, 1), (11, 0, 8, 100), (11, 0, 7, 14)]
def RB2 : List (Nat × Nat × Nat × Nat) := [(12, 0, 77, 0), (12, 0, 71, 0), (12, 0, 61, 0), (12, 0, 60, 0), (12, 0, 57, 0), (12, 0, 54, 0), (12, 0, 53, 0), (12, 0, 52, 0), (12, 0, 51, 0), (12, 0, 50, 0), (12, 0, 48, 0), (12, 0, 46, 0), (12, 0, 45, 0), (12, 0, 44, 0), (12, 0, 43, 0), (12, 0, 42, 0), (12, 0, 39, 0), (12, 0, 38, 0), (12, 0, 37, 0), (12, 0, 35, 0), (12, 0, 34, 0), (12, 0, 33, 0), (12, 0, 32, 0), (12, 0, 31, 0), (12, 0, 30, 0), (12, 0, 29, 0), (12, 0, 28, 0), (12, 0, 27, 0), (12, 0, 26, 0), (12, 0, 25, 0), (12, 0, 24, 0), (12, 0, 23, 0), (12, 0, 22, 0), (12, 0, 21, 0), (12, 0, 20, 0), (12, 0, 19, 0), (12, 0, 18, 0), (12, 0, 16, 0), (12, 0, 15, 0), (12, 0, 14, 0), (12, 0, 12, 0), (12, 0, 11, 0), (12, 0, 10, 0), (12, 0, 9, 0), (12, 0, 8, 0), (12, 0, 7, 0), (12, 0, 6, 0), (12, 0, 5, 0), (12, 0, 4, 0), (12, 0, 3, 0), (12, 0, 2, 0), (12, 0, 1, 0), (11, 0, 18, 0), (11, 0, 17, 0), (11, 0, 16, 0), (0, 0, 7, 0), (0, 0, 6, 0), (0, 0, 5, 0), (0, 0, 3, 0), (0, 0, 1, 0), (0, 0, 0, 0), (11, 0, 15, 0), (2, 0, 2, 0), (2, 0, 1, 0), (2, 0, 0, 0), (11, 0, 14, 0), (6, 0, 0, 0), (11, 0, 13, 1), (9, 1, 0, 1), (11, 0, 12, 0), (9, 0, 0, 0), (11, 0, 10, 0), (11, 0, 4, 0), (11, 0, 2, 0), (11, 0, 0, 0)]
def NB2 : List Nat := [1377, 1371, 1361, 1360, 1357, 1354, 1353, 1352, 1351, 1350, 1348, 1346, 1345, 1344, 1343, 1342, 1339, 1338, 1337, 1335, 1334, 1333, 1332, 1331, 1330, 1329, 1328, 1327, 1326, 1325, 1324, 1323, 1322, 1321, 1320, 1319, 1318, 1316, 1315, 1314, 1312, 1311, 1310, 1309, 1308, 1307, 1306, 1305, 1304, 1303, 1302, 1301, 12, 1218, 1217, 107, 106, 105, 103, 101, 100, 0, 302, 301, 300, 2, 700, 6, 1000, 9, 1000, 9, 1210, 1204, 1202, 1200, 11]
theorem r_f6 {s : zSt} {F : List (Nat × Nat × Nat × Int32)} {R : List (Nat × Nat × Nat × Nat)} {N : List Nat} (h : SS s F R N) {i : Nat} (hv : N.count 700 = 0) (c1 : frI F 700 0 = true) (c2 : frO R 700 0 = true) : Run (f6_init i s) (fun s' => SS s' F ((6, i, 0, 0) :: R) (700 :: N)) := by
  unfold f6_init
  refine ss_obj h 0 hv c1 c2 (fun s h => ?_)
  refine ss_R h (fun s h => ?_)
  exact Run.fin h
theorem r_f2 {s : zSt} {F : List (Nat × Nat × Nat × Int32)} {R : List (Nat × Nat × Nat × Nat)} {N : List Nat} (h : SS s F R N) (c : frI F 300 0 = true ∧ frI F 301 0 = true ∧ frI F 302 0 = true) (c2 : frO R 300 0 = true ∧ frO R 301 0 = true ∧ frO R 302 0 = true) (c3 : N.count 300 = 0 ∧ (300 :: N).count 301 = 0 ∧ (301 :: 300 :: N).count 302 = 0) : Run (f2_init 0 s) (fun s' => SS s' F ((2, 0, 2, 0) :: (2, 0, 1, 0) :: (2, 0, 0, 0) :: R) (302 :: 301 :: 300 :: N)) := by
  unfold f2_init
  refine ss_obj h 0 c3.1 c.1 c2.1 (fun s h => ?_)
  refine ss_R h (fun s h => ?_)
  refine ss_obj h 0 c3.2.1 c.2.1 c2.2.1 (fun s h => ?_)
  refine ss_R h (fun s h => ?_)
  refine ss_obj h 0 c3.2.2 c.2.2 c2.2.2 (fun s h => ?_)
  refine ss_R h (fun s h => ?_)
  exact Run.fin h
theorem r_f0 {s : zSt} {F : List (Nat × Nat × Nat × Int32)} {R : List (Nat × Nat × Nat × Nat)} {N : List Nat} (h : SS s F R N) (c : ∀ t ∈ [100, 101, 103, 105, 106, 107], frI F t 0 = true ∧ frO R t 0 = true ∧ N.count t = 0) : Run (f0_init 0 s) (fun s' => SS s' (ff 100 10 F) ((0, 0, 7, 0) :: (0, 0, 6, 0) :: (0, 0, 5, 0) :: (0, 0, 3, 0) :: (0, 0, 1, 0) :: (0, 0, 0, 0) :: R) (107 :: 106 :: 105 :: 103 :: 101 :: 100 :: N)) := by
  unfold f0_init
  have a100 := c 100 (by decide)
  have a101 := c 101 (by decide)
  have a103 := c 103 (by decide)
  have a105 := c 105 (by decide)
  have a106 := c 106 (by decide)
  have a107 := c 107 (by decide)
  refine ss_obj h 0 a100.2.2 a100.1 a100.2.1 (fun s h => ?_)
  refine ss_R h (fun s h => ?_)
  refine ss_obj h 0 (by simp only [List.count_cons, a101.2.2]; rfl) a101.1 a101.2.1 (fun s h => ?_)
  refine ss_R h (fun s h => ?_)
  refine ss_obj h 0 (by simp only [List.count_cons, a103.2.2]; rfl) a103.1 a103.2.1 (fun s h => ?_)
  refine ss_R h (fun s h => ?_)
  refine ss_obj h 0 (by simp only [List.count_cons, a105.2.2]; rfl) a105.1 a105.2.1 (fun s h => ?_)
  refine ss_R h (fun s h => ?_)
  refine ss_obj h 0 (by simp only [List.count_cons, a106.2.2]; rfl) a106.1 a106.2.1 (fun s h => ?_)
  refine ss_R h (fun s h => ?_)
  refine ss_obj h 0 (by simp only [List.count_cons, a107.2.2]; rfl) a107.1 a107.2.1 (fun s h => ?_)
  refine ss_R h (fun s h => ?_)
  rw [zlt_s, h.2.1, show lkR ((0, 0, 7, 0) :: (0, 0, 6, 0) :: (0, 0, 5, 0) :: (0, 0, 3, 0) :: (0, 0, 1, 0) :: (0, 0, 0, 0) :: R) 0 0 0 = some 0 from rfl, zoc_s]
  refine Run.bind (Q1 := fun s' => SS s' (ff 100 10 F) ((0, 0, 7, 0) :: (0, 0, 6, 0) :: (0, 0, 5, 0) :: (0, 0, 3, 0) :: (0, 0, 1, 0) :: (0, 0, 0, 0) :: R) (107 :: 106 :: 105 :: 103 :: 101 :: 100 :: N)) ?_ (fun s h => Run.fin h)
  unfold fJ7_fill_53178
  rw [zlt_s]
  exact r_fill 10 0 zfuel s rfl (zfuel_pos (by omega)) h
theorem r_f11 {s : zSt} (h : SS s [] [] [11]) : Run (f11_init 0 s) (fun s' => SS s' FA2 RA2 NA2) := by
  unfold f11_init
  repeat (first
    | refine ss_obj h 0 (by decide +kernel) (by decide +kernel) (by decide +kernel) (fun s h => ?_)
    | refine ss_obj h 1 (by decide +kernel) (by decide +kernel) (by decide +kernel) (fun s h => ?_)
    | refine ss_R h (fun s h => ?_)
    | refine ss_I h (fun s h => ?_)
    | refine Run.bind (r_9 h 0 (by decide +kernel) (by decide +kernel) (by decide +kernel)) (fun s h => ?_)
    | refine Run.bind (r_9 h 1 (by decide +kernel) (by decide +kernel) (by decide +kernel)) (fun s h => ?_)
    | refine Run.bind (r_f6 h (by decide +kernel) (by decide +kernel) (by decide +kernel)) (fun s h => ?_)
    | refine Run.bind (r_f2 h (by decide +kernel) (by decide +kernel) (by decide +kernel)) (fun s h => ?_)
    | refine Run.bind (r_f0 h (by decide +kernel)) (fun s h => ?_))
  exact Run.fin h
theorem r_f12 {s : zSt} (h : SS s FA2 RA2 (12 :: NA2)) : Run (f12_init 0 s) (fun s' => SS s' FB2 RB2 NB2) := by
  unfold f12_init
  repeat (first
    | refine ss_obj h 0 (by decide +kernel) (by decide +kernel) (by decide +kernel) (fun s h => ?_)
    | refine ss_R h (fun s h => ?_)
    | refine ss_I h (fun s h => ?_))
  exact r_one 10 0 zfuel s rfl (zfuel_pos (by omega)) (by decide +kernel) h
