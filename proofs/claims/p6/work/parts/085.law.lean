variable {η : zRn}
/-! the cells that the constructors make -/
theorem ar2_v (AD : Nat → Nat) (i j : Nat) : (fun k => zrv AD ([.inr i, .inr j].getD k (.inl (-1)))) = ar2 (AD i) (AD j) := by
  funext k
  match k with
  | 0 => rfl
  | 1 => rfl
  | k + 2 => rfl
theorem upd_v : (fun j => Int32.ofInt (znv ([.inl (-1)].getD j (.inl 0)))) = upd (fun _ => (0 : Int32)) 0 (-1) := by
  funext k
  match k with
  | 0 => rfl
  | k + 1 => rfl
def zTc : zTm := [(63, [.inr 1, .inr 40, .inr 41, .inr 60, .inr 72, .inr 81, .inr 85]), (28, [.inr 2, .inr 4, .inr 5, .inr 22, .inr 29, .inl 0, .inl (-1)]), (1, [.inr 3, .inl 0]), (0, []), (24, []), (25, [.inr 6, .inr 14]), (15, [.inl 0, .inl 0, .inl 0, .inl 0, .inl 0, .inr 7, .inl 0, .inr 8, .inr 9, .inr 10, .inl 0, .inr 11, .inr 12, .inr 13, .inl 0]), (8, []), (9, []), (10, []), (11, []), (12, []), (13, []), (14, []), (15, [.inl 0, .inl 0, .inl 0, .inl 0, .inl 0, .inr 15, .inl 0, .inr 16, .inr 17, .inr 18, .inl 0, .inr 19, .inr 20, .inr 21, .inl 0]), (8, []), (9, []), (10, []), (11, []), (12, []), (13, []), (14, []), (26, [.inr 23, .inr 26]), (18, [.inl 0, .inr 24, .inr 25]), (16, []), (17, []), (18, [.inl 0, .inr 27, .inr 28]), (16, []), (17, []), (27, [.inr 30, .inr 35]), (23, [.inl 0, .inr 31, .inr 32, .inl 0, .inr 33, .inr 34]), (19, []), (20, []), (21, []), (22, []), (23, [.inl 0, .inr 36, .inr 37, .inl 0, .inr 38, .inr 39]), (19, []), (20, []), (21, []), (22, []), (62, []), (34, [.inr 42, .inr 50, .inr 53, .inl 0, .inl 0, .inr 58, .inr 59, .inl 0, .inl 0, .inl 0]), (15, [.inl 0, .inl 0, .inl 0, .inl 0, .inl 0, .inr 43, .inl 0, .inr 44, .inr 45, .inr 46, .inl 0, .inr 47, .inr 48, .inr 49, .inl 0]), (8, []), (9, []), (10, []), (11, []), (12, []), (13, []), (14, []), (18, [.inl 0, .inr 51, .inr 52]), (16, []), (17, []), (23, [.inl 0, .inr 54, .inr 55, .inl 0, .inr 56, .inr 57]), (19, []), (20, []), (21, []), (22, []), (32, []), (33, []), (46, [.inl (-1), .inl (-1), .inr 61, .inr 68, .inr 69, .inr 70, .inl 0, .inl 0, .inl 0, .inl 0, .inl 0, .inl 0, .inl 0, .inl 0, .inl 0, .inr 71]), (41, [.inr 62, .inr 63, .inr 64, .inr 65, .inr 66, .inr 67, .inl 0, .inl 0]), (35, []), (36, []), (37, []), (38, []), (39, []), (40, []), (42, []), (43, []), (44, []), (45, []), (47, [.inl 0, .inl 0, .inl 0, .inr 73]), (15, [.inl 0, .inl 0, .inl 0, .inl 0, .inl 0, .inr 74, .inl 0, .inr 75, .inr 76, .inr 77, .inl 0, .inr 78, .inr 79, .inr 80, .inl 0]), (8, []), (9, []), (10, []), (11, []), (12, []), (13, []), (14, []), (51, [.inl 0, .inl 0, .inl 0, .inr 82, .inr 83, .inr 84, .inl 0]), (48, []), (49, []), (50, []), (58, [.inr 86, .inr 87, .inr 88, .inr 89, .inr 90, .inr 91]), (52, []), (53, []), (54, []), (55, []), (56, []), (57, [])]
set_option maxRecDepth 100000 in
theorem zTc_ok : zokT zkds zTc = true := by decide +kernel
set_option maxRecDepth 100000 in
theorem zTc_ox : zTc.all (fun q => zokx zTc.length (zkds.getD q.1 (0, 0, 0, [])) q.2) = true := by decide +kernel
def zTr : zTm := [(35, [.inl 0, .inr 1, .inr 2, .inr 3, .inr 4, .inr 5, .inr 6, .inr 7, .inr 8, .inl 0, .inl 0, .inl 0, .inl 0, .inl 0, .inl 0, .inl 0, .inl 0, .inl 0, .inr 9, .inr 10, .inl 0, .inl 0, .inl 0, .inl 0, .inl 0, .inl 0, .inl 0, .inl 0, .inl 0, .inl 0, .inr 11, .inr 12, .inr 13, .inl 0, .inl 0, .inl 0, .inr 14, .inr 15, .inr 16, .inr 17, .inr 18, .inr 19, .inr 20, .inr 21, .inr 22, .inr 23, .inr 24, .inr 25, .inr 26, .inl 0, .inl 0, .inl 0, .inr 27, .inr 28, .inr 29, .inl 0, .inl 0, .inl 0, .inr 30, .inr 31, .inr 32, .inr 33, .inr 34, .inr 35]), (0, []), (1, []), (2, []), (3, [.inl (-1)]), (4, []), (5, []), (6, []), (7, []), (8, []), (9, []), (10, []), (11, []), (12, []), (13, []), (14, []), (15, []), (20, []), (19, []), (16, []), (17, []), (18, []), (21, []), (22, []), (23, []), (24, []), (25, []), (27, []), (28, []), (26, []), (29, []), (30, []), (31, []), (32, []), (33, []), (34, [])]
set_option maxRecDepth 100000 in
theorem zTr_ok : zokT zkdm zTr = true := by decide +kernel
set_option maxRecDepth 100000 in
theorem zTr_ox : zTr.all (fun q => zokx zTr.length (zkdm.getD q.1 (0, 0, 0, [])) q.2) = true := by decide +kernel
def zTi0 : zTm := [(29, [.inr 1, .inr 3, .inr 4, .inr 21, .inr 28, .inl 0, .inl (-1)]), (3, [.inr 2, .inl 0]), (2, []), (24, []), (25, [.inr 5, .inr 13]), (15, [.inl 0, .inl 0, .inl 0, .inl 0, .inl 0, .inr 6, .inl 0, .inr 7, .inr 8, .inr 9, .inl 0, .inr 10, .inr 11, .inr 12, .inl 0]), (8, []), (9, []), (10, []), (11, []), (12, []), (13, []), (14, []), (15, [.inl 0, .inl 0, .inl 0, .inl 0, .inl 0, .inr 14, .inl 0, .inr 15, .inr 16, .inr 17, .inl 0, .inr 18, .inr 19, .inr 20, .inl 0]), (8, []), (9, []), (10, []), (11, []), (12, []), (13, []), (14, []), (26, [.inr 22, .inr 25]), (18, [.inl 0, .inr 23, .inr 24]), (16, []), (17, []), (18, [.inl 0, .inr 26, .inr 27]), (16, []), (17, []), (27, [.inr 29, .inr 34]), (23, [.inl 0, .inr 30, .inr 31, .inl 0, .inr 32, .inr 33]), (19, []), (20, []), (21, []), (22, []), (23, [.inl 0, .inr 35, .inr 36, .inl 0, .inr 37, .inr 38]), (19, []), (20, []), (21, []), (22, [])]
set_option maxRecDepth 100000 in
theorem zTi0_ok : zokT zkds zTi0 = true := by decide +kernel
set_option maxRecDepth 100000 in
theorem zTi0_ox : zTi0.all (fun q => zokx zTi0.length (zkds.getD q.1 (0, 0, 0, [])) q.2) = true := by decide +kernel
def zTi1 : zTm := [(30, [.inr 1, .inr 3, .inr 4, .inr 21, .inr 28, .inl 0, .inl (-1)]), (5, [.inr 2, .inl 0]), (4, []), (24, []), (25, [.inr 5, .inr 13]), (15, [.inl 0, .inl 0, .inl 0, .inl 0, .inl 0, .inr 6, .inl 0, .inr 7, .inr 8, .inr 9, .inl 0, .inr 10, .inr 11, .inr 12, .inl 0]), (8, []), (9, []), (10, []), (11, []), (12, []), (13, []), (14, []), (15, [.inl 0, .inl 0, .inl 0, .inl 0, .inl 0, .inr 14, .inl 0, .inr 15, .inr 16, .inr 17, .inl 0, .inr 18, .inr 19, .inr 20, .inl 0]), (8, []), (9, []), (10, []), (11, []), (12, []), (13, []), (14, []), (26, [.inr 22, .inr 25]), (18, [.inl 0, .inr 23, .inr 24]), (16, []), (17, []), (18, [.inl 0, .inr 26, .inr 27]), (16, []), (17, []), (27, [.inr 29, .inr 34]), (23, [.inl 0, .inr 30, .inr 31, .inl 0, .inr 32, .inr 33]), (19, []), (20, []), (21, []), (22, []), (23, [.inl 0, .inr 35, .inr 36, .inl 0, .inr 37, .inr 38]), (19, []), (20, []), (21, []), (22, [])]
set_option maxRecDepth 100000 in
theorem zTi1_ok : zokT zkds zTi1 = true := by decide +kernel
set_option maxRecDepth 100000 in
theorem zTi1_ox : zTi1.all (fun q => zokx zTi1.length (zkds.getD q.1 (0, 0, 0, [])) q.2) = true := by decide +kernel
def zTi2 : zTm := [(31, [.inr 1, .inr 3, .inr 4, .inr 21, .inr 28, .inl 0, .inl (-1)]), (7, [.inr 2, .inl 0]), (6, []), (24, []), (25, [.inr 5, .inr 13]), (15, [.inl 0, .inl 0, .inl 0, .inl 0, .inl 0, .inr 6, .inl 0, .inr 7, .inr 8, .inr 9, .inl 0, .inr 10, .inr 11, .inr 12, .inl 0]), (8, []), (9, []), (10, []), (11, []), (12, []), (13, []), (14, []), (15, [.inl 0, .inl 0, .inl 0, .inl 0, .inl 0, .inr 14, .inl 0, .inr 15, .inr 16, .inr 17, .inl 0, .inr 18, .inr 19, .inr 20, .inl 0]), (8, []), (9, []), (10, []), (11, []), (12, []), (13, []), (14, []), (26, [.inr 22, .inr 25]), (18, [.inl 0, .inr 23, .inr 24]), (16, []), (17, []), (18, [.inl 0, .inr 26, .inr 27]), (16, []), (17, []), (27, [.inr 29, .inr 34]), (23, [.inl 0, .inr 30, .inr 31, .inl 0, .inr 32, .inr 33]), (19, []), (20, []), (21, []), (22, []), (23, [.inl 0, .inr 35, .inr 36, .inl 0, .inr 37, .inr 38]), (19, []), (20, []), (21, []), (22, [])]
set_option maxRecDepth 100000 in
theorem zTi2_ok : zokT zkds zTi2 = true := by decide +kernel
set_option maxRecDepth 100000 in
theorem zTi2_ox : zTi2.all (fun q => zokx zTi2.length (zkds.getD q.1 (0, 0, 0, [])) q.2) = true := by decide +kernel
set_option maxHeartbeats 4000000 in
set_option maxRecDepth 100000 in
theorem zc_at {D : va_G} {cy : Nat → ClassId} {h0 : Nat} {ad : Nat → Nat} {H : Heap} (hP : va_P D vwCl [(h0, .inr (11, [.ref (ad 0), .ref (ad 1), .ref (ad 2), .ref (ad 3), .ref (ad 4), .ref (ad 5), .ref (ad 6)])), ((ad 0), .inr (9, [.ref (ad 7), .ref (ad 8), .ref (ad 9), .ref (ad 10), .ref (ad 11), .int 0, .int (-1)])), ((ad 7), .inr (8, [.ref (ad 12), .int 0])), ((ad 12), .inl (cy 1, 600, .inl (fun _ => 0))), ((ad 8), .inl (cy 0, 3, .inl (fun _ => 0))), ((ad 9), .inl (cy 3, 2, .inr (.inr (.inr (.inr (ar2 (ad 13) (ad 14))))))), ((ad 13), .inr (6, [.int 0, .int 0, .int 0, .int 0, .int 0, .ref (ad 15), .int 0, .ref (ad 16), .ref (ad 17), .ref (ad 18), .int 0, .ref (ad 19), .ref (ad 20), .ref (ad 21), .int 0])), ((ad 15), .inl (cy 0, 12, .inl (fun _ => 0))), ((ad 16), .inl (cy 0, 4, .inl (fun _ => 0))), ((ad 17), .inl (cy 0, 4, .inl (fun _ => 0))), ((ad 18), .inl (cy 0, 4, .inl (fun _ => 0))), ((ad 19), .inl (cy 0, 6, .inl (fun _ => 0))), ((ad 20), .inl (cy 0, 6, .inl (fun _ => 0))), ((ad 21), .inl (cy 0, 6, .inl (fun _ => 0))), ((ad 14), .inr (6, [.int 0, .int 0, .int 0, .int 0, .int 0, .ref (ad 22), .int 0, .ref (ad 23), .ref (ad 24), .ref (ad 25), .int 0, .ref (ad 26), .ref (ad 27), .ref (ad 28), .int 0])), ((ad 22), .inl (cy 0, 12, .inl (fun _ => 0))), ((ad 23), .inl (cy 0, 4, .inl (fun _ => 0))), ((ad 24), .inl (cy 0, 4, .inl (fun _ => 0))), ((ad 25), .inl (cy 0, 4, .inl (fun _ => 0))), ((ad 26), .inl (cy 0, 6, .inl (fun _ => 0))), ((ad 27), .inl (cy 0, 6, .inl (fun _ => 0))), ((ad 28), .inl (cy 0, 6, .inl (fun _ => 0))), ((ad 10), .inl (cy 4, 2, .inr (.inr (.inr (.inr (ar2 (ad 29) (ad 30))))))), ((ad 29), .inr (1, [.int 0, .ref (ad 31), .ref (ad 32)])), ((ad 31), .inl (cy 0, 30, .inl (fun _ => 0))), ((ad 32), .inl (cy 0, 90, .inl (fun _ => 0))), ((ad 30), .inr (1, [.int 0, .ref (ad 33), .ref (ad 34)])), ((ad 33), .inl (cy 0, 30, .inl (fun _ => 0))), ((ad 34), .inl (cy 0, 90, .inl (fun _ => 0))), ((ad 11), .inl (cy 5, 2, .inr (.inr (.inr (.inr (ar2 (ad 35) (ad 36))))))), ((ad 35), .inr (2, [.int 0, .ref (ad 37), .ref (ad 38), .int 0, .ref (ad 39), .ref (ad 40)])), ((ad 37), .inl (cy 0, 9, .inl (fun _ => 0))), ((ad 38), .inl (cy 0, 9, .inl (fun _ => 0))), ((ad 39), .inl (cy 0, 16, .inl (fun _ => 0))), ((ad 40), .inl (cy 0, 16, .inl (fun _ => 0))), ((ad 36), .inr (2, [.int 0, .ref (ad 41), .ref (ad 42), .int 0, .ref (ad 43), .ref (ad 44)])), ((ad 41), .inl (cy 0, 9, .inl (fun _ => 0))), ((ad 42), .inl (cy 0, 9, .inl (fun _ => 0))), ((ad 43), .inl (cy 0, 16, .inl (fun _ => 0))), ((ad 44), .inl (cy 0, 16, .inl (fun _ => 0))), ((ad 1), .inl (cy 6, 3, .inr (.inr (.inr (.inr (fun _ => none)))))), ((ad 2), .inr (4, [.ref (ad 45), .ref (ad 46), .ref (ad 47), .int 0, .int 0, .ref (ad 48), .ref (ad 49), .int 0, .int 0, .int 0])), ((ad 45), .inr (6, [.int 0, .int 0, .int 0, .int 0, .int 0, .ref (ad 50), .int 0, .ref (ad 51), .ref (ad 52), .ref (ad 53), .int 0, .ref (ad 54), .ref (ad 55), .ref (ad 56), .int 0])), ((ad 50), .inl (cy 0, 12, .inl (fun _ => 0))), ((ad 51), .inl (cy 0, 4, .inl (fun _ => 0))), ((ad 52), .inl (cy 0, 4, .inl (fun _ => 0))), ((ad 53), .inl (cy 0, 4, .inl (fun _ => 0))), ((ad 54), .inl (cy 0, 6, .inl (fun _ => 0))), ((ad 55), .inl (cy 0, 6, .inl (fun _ => 0))), ((ad 56), .inl (cy 0, 6, .inl (fun _ => 0))), ((ad 46), .inr (1, [.int 0, .ref (ad 57), .ref (ad 58)])), ((ad 57), .inl (cy 0, 30, .inl (fun _ => 0))), ((ad 58), .inl (cy 0, 90, .inl (fun _ => 0))), ((ad 47), .inr (2, [.int 0, .ref (ad 59), .ref (ad 60), .int 0, .ref (ad 61), .ref (ad 62)])), ((ad 59), .inl (cy 0, 9, .inl (fun _ => 0))), ((ad 60), .inl (cy 0, 9, .inl (fun _ => 0))), ((ad 61), .inl (cy 0, 16, .inl (fun _ => 0))), ((ad 62), .inl (cy 0, 16, .inl (fun _ => 0))), ((ad 48), .inl (cy 0, 5, .inl (fun _ => 0))), ((ad 49), .inl (cy 0, 5, .inl (fun _ => 0))), ((ad 3), .inr (5, [.null, .null, .ref (ad 63), .ref (ad 64), .ref (ad 65), .ref (ad 66), .int 0, .int 0, .int 0, .int 0, .int 0, .int 0, .int 0, .int 0, .int 0, .ref (ad 67)])), ((ad 63), .inr (7, [.ref (ad 68), .ref (ad 69), .ref (ad 70), .ref (ad 71), .ref (ad 72), .ref (ad 73), .int 0, .int 0])), ((ad 68), .inl (cy 0, 6, .inl (fun _ => 0))), ((ad 69), .inl (cy 0, 6, .inl (fun _ => 0))), ((ad 70), .inl (cy 0, 6, .inl (fun _ => 0))), ((ad 71), .inl (cy 0, 6, .inl (fun _ => 0))), ((ad 72), .inl (cy 0, 6, .inl (fun _ => 0))), ((ad 73), .inl (cy 0, 6, .inl (fun _ => 0))), ((ad 64), .inl (cy 0, 6, .inl (fun _ => 0))), ((ad 65), .inl (cy 0, 6, .inl (fun _ => 0))), ((ad 66), .inl (cy 0, 6, .inl (fun _ => 0))), ((ad 67), .inl (cy 0, 3, .inl (fun _ => 0))), ((ad 4), .inr (10, [.int 0, .int 0, .int 0, .ref (ad 74)])), ((ad 74), .inr (6, [.int 0, .int 0, .int 0, .int 0, .int 0, .ref (ad 75), .int 0, .ref (ad 76), .ref (ad 77), .ref (ad 78), .int 0, .ref (ad 79), .ref (ad 80), .ref (ad 81), .int 0])), ((ad 75), .inl (cy 0, 12, .inl (fun _ => 0))), ((ad 76), .inl (cy 0, 4, .inl (fun _ => 0))), ((ad 77), .inl (cy 0, 4, .inl (fun _ => 0))), ((ad 78), .inl (cy 0, 4, .inl (fun _ => 0))), ((ad 79), .inl (cy 0, 6, .inl (fun _ => 0))), ((ad 80), .inl (cy 0, 6, .inl (fun _ => 0))), ((ad 81), .inl (cy 0, 6, .inl (fun _ => 0))), ((ad 5), .inr (0, [.int 0, .int 0, .int 0, .ref (ad 82), .ref (ad 83), .ref (ad 84), .long 0])), ((ad 82), .inl (cy 0, 128, .inl (fun _ => 0))), ((ad 83), .inl (cy 0, 128, .inl (fun _ => 0))), ((ad 84), .inl (cy 0, 16, .inl (fun _ => 0))), ((ad 6), .inr (3, [.ref (ad 85), .ref (ad 86), .ref (ad 87), .ref (ad 88), .ref (ad 89), .ref (ad 90)])), ((ad 85), .inl (cy 0, 9, .inl (fun _ => 0))), ((ad 86), .inl (cy 0, 9, .inl (fun _ => 0))), ((ad 87), .inl (cy 0, 9, .inl (fun _ => 0))), ((ad 88), .inl (cy 0, 9, .inl (fun _ => 0))), ((ad 89), .inl (cy 0, 512, .inl (fun _ => 0))), ((ad 90), .inl (cy 0, 81, .inl (fun _ => 0)))] H) (i : Nat) (hi : i < zTc.length) : va_at D vwCl ((fun i => [h0, ad 0, ad 7, ad 12, ad 8, ad 9, ad 13, ad 15, ad 16, ad 17, ad 18, ad 19, ad 20, ad 21, ad 14, ad 22, ad 23, ad 24, ad 25, ad 26, ad 27, ad 28, ad 10, ad 29, ad 31, ad 32, ad 30, ad 33, ad 34, ad 11, ad 35, ad 37, ad 38, ad 39, ad 40, ad 36, ad 41, ad 42, ad 43, ad 44, ad 1, ad 2, ad 45, ad 50, ad 51, ad 52, ad 53, ad 54, ad 55, ad 56, ad 46, ad 57, ad 58, ad 47, ad 59, ad 60, ad 61, ad 62, ad 48, ad 49, ad 3, ad 63, ad 68, ad 69, ad 70, ad 71, ad 72, ad 73, ad 64, ad 65, ad 66, ad 67, ad 4, ad 74, ad 75, ad 76, ad 77, ad 78, ad 79, ad 80, ad 81, ad 5, ad 82, ad 83, ad 84, ad 6, ad 85, ad 86, ad 87, ad 88, ad 89, ad 90].getD i 0) i, zEv (fun i => [h0, ad 0, ad 7, ad 12, ad 8, ad 9, ad 13, ad 15, ad 16, ad 17, ad 18, ad 19, ad 20, ad 21, ad 14, ad 22, ad 23, ad 24, ad 25, ad 26, ad 27, ad 28, ad 10, ad 29, ad 31, ad 32, ad 30, ad 33, ad 34, ad 11, ad 35, ad 37, ad 38, ad 39, ad 40, ad 36, ad 41, ad 42, ad 43, ad 44, ad 1, ad 2, ad 45, ad 50, ad 51, ad 52, ad 53, ad 54, ad 55, ad 56, ad 46, ad 57, ad 58, ad 47, ad 59, ad 60, ad 61, ad 62, ad 48, ad 49, ad 3, ad 63, ad 68, ad 69, ad 70, ad 71, ad 72, ad 73, ad 64, ad 65, ad 66, ad 67, ad 4, ad 74, ad 75, ad 76, ad 77, ad 78, ad 79, ad 80, ad 81, ad 5, ad 82, ad 83, ad 84, ad 6, ad 85, ad 86, ad 87, ad 88, ad 89, ad 90].getD i 0) cy (zkT zkds zTc i) (zTc.getD i (0, [])).2) H := by
  match i, hi with
  | 0, _ => exact hP 0 _ rfl
  | 1, _ => exact hP 1 _ rfl
  | 2, _ => exact hP 2 _ rfl
  | 3, _ => exact hP 3 _ rfl
  | 4, _ => exact hP 4 _ rfl
  | 5, _ =>
    show va_at D vwCl ((fun i => [h0, ad 0, ad 7, ad 12, ad 8, ad 9, ad 13, ad 15, ad 16, ad 17, ad 18, ad 19, ad 20, ad 21, ad 14, ad 22, ad 23, ad 24, ad 25, ad 26, ad 27, ad 28, ad 10, ad 29, ad 31, ad 32, ad 30, ad 33, ad 34, ad 11, ad 35, ad 37, ad 38, ad 39, ad 40, ad 36, ad 41, ad 42, ad 43, ad 44, ad 1, ad 2, ad 45, ad 50, ad 51, ad 52, ad 53, ad 54, ad 55, ad 56, ad 46, ad 57, ad 58, ad 47, ad 59, ad 60, ad 61, ad 62, ad 48, ad 49, ad 3, ad 63, ad 68, ad 69, ad 70, ad 71, ad 72, ad 73, ad 64, ad 65, ad 66, ad 67, ad 4, ad 74, ad 75, ad 76, ad 77, ad 78, ad 79, ad 80, ad 81, ad 5, ad 82, ad 83, ad 84, ad 6, ad 85, ad 86, ad 87, ad 88, ad 89, ad 90].getD i 0) 5, .inl (cy 3, 2, .inr (.inr (.inr (.inr (fun k => zrv (fun i => [h0, ad 0, ad 7, ad 12, ad 8, ad 9, ad 13, ad 15, ad 16, ad 17, ad 18, ad 19, ad 20, ad 21, ad 14, ad 22, ad 23, ad 24, ad 25, ad 26, ad 27, ad 28, ad 10, ad 29, ad 31, ad 32, ad 30, ad 33, ad 34, ad 11, ad 35, ad 37, ad 38, ad 39, ad 40, ad 36, ad 41, ad 42, ad 43, ad 44, ad 1, ad 2, ad 45, ad 50, ad 51, ad 52, ad 53, ad 54, ad 55, ad 56, ad 46, ad 57, ad 58, ad 47, ad 59, ad 60, ad 61, ad 62, ad 48, ad 49, ad 3, ad 63, ad 68, ad 69, ad 70, ad 71, ad 72, ad 73, ad 64, ad 65, ad 66, ad 67, ad 4, ad 74, ad 75, ad 76, ad 77, ad 78, ad 79, ad 80, ad 81, ad 5, ad 82, ad 83, ad 84, ad 6, ad 85, ad 86, ad 87, ad 88, ad 89, ad 90].getD i 0) ([.inr 6, .inr 14].getD k (.inl (-1))))))))) H
    rw [ar2_v]
    exact hP 5 _ rfl
  | 6, _ => exact hP 6 _ rfl
  | 7, _ => exact hP 7 _ rfl
  | 8, _ => exact hP 8 _ rfl
  | 9, _ => exact hP 9 _ rfl
  | 10, _ => exact hP 10 _ rfl
  | 11, _ => exact hP 11 _ rfl
  | 12, _ => exact hP 12 _ rfl
  | 13, _ => exact hP 13 _ rfl
  | 14, _ => exact hP 14 _ rfl
  | 15, _ => exact hP 15 _ rfl
  | 16, _ => exact hP 16 _ rfl
  | 17, _ => exact hP 17 _ rfl
  | 18, _ => exact hP 18 _ rfl
  | 19, _ => exact hP 19 _ rfl
  | 20, _ => exact hP 20 _ rfl
  | 21, _ => exact hP 21 _ rfl
  | 22, _ =>
    show va_at D vwCl ((fun i => [h0, ad 0, ad 7, ad 12, ad 8, ad 9, ad 13, ad 15, ad 16, ad 17, ad 18, ad 19, ad 20, ad 21, ad 14, ad 22, ad 23, ad 24, ad 25, ad 26, ad 27, ad 28, ad 10, ad 29, ad 31, ad 32, ad 30, ad 33, ad 34, ad 11, ad 35, ad 37, ad 38, ad 39, ad 40, ad 36, ad 41, ad 42, ad 43, ad 44, ad 1, ad 2, ad 45, ad 50, ad 51, ad 52, ad 53, ad 54, ad 55, ad 56, ad 46, ad 57, ad 58, ad 47, ad 59, ad 60, ad 61, ad 62, ad 48, ad 49, ad 3, ad 63, ad 68, ad 69, ad 70, ad 71, ad 72, ad 73, ad 64, ad 65, ad 66, ad 67, ad 4, ad 74, ad 75, ad 76, ad 77, ad 78, ad 79, ad 80, ad 81, ad 5, ad 82, ad 83, ad 84, ad 6, ad 85, ad 86, ad 87, ad 88, ad 89, ad 90].getD i 0) 22, .inl (cy 4, 2, .inr (.inr (.inr (.inr (fun k => zrv (fun i => [h0, ad 0, ad 7, ad 12, ad 8, ad 9, ad 13, ad 15, ad 16, ad 17, ad 18, ad 19, ad 20, ad 21, ad 14, ad 22, ad 23, ad 24, ad 25, ad 26, ad 27, ad 28, ad 10, ad 29, ad 31, ad 32, ad 30, ad 33, ad 34, ad 11, ad 35, ad 37, ad 38, ad 39, ad 40, ad 36, ad 41, ad 42, ad 43, ad 44, ad 1, ad 2, ad 45, ad 50, ad 51, ad 52, ad 53, ad 54, ad 55, ad 56, ad 46, ad 57, ad 58, ad 47, ad 59, ad 60, ad 61, ad 62, ad 48, ad 49, ad 3, ad 63, ad 68, ad 69, ad 70, ad 71, ad 72, ad 73, ad 64, ad 65, ad 66, ad 67, ad 4, ad 74, ad 75, ad 76, ad 77, ad 78, ad 79, ad 80, ad 81, ad 5, ad 82, ad 83, ad 84, ad 6, ad 85, ad 86, ad 87, ad 88, ad 89, ad 90].getD i 0) ([.inr 23, .inr 26].getD k (.inl (-1))))))))) H
    rw [ar2_v]
    exact hP 22 _ rfl
  | 23, _ => exact hP 23 _ rfl
  | 24, _ => exact hP 24 _ rfl
  | 25, _ => exact hP 25 _ rfl
  | 26, _ => exact hP 26 _ rfl
  | 27, _ => exact hP 27 _ rfl
  | 28, _ => exact hP 28 _ rfl
  | 29, _ =>
    show va_at D vwCl ((fun i => [h0, ad 0, ad 7, ad 12, ad 8, ad 9, ad 13, ad 15, ad 16, ad 17, ad 18, ad 19, ad 20, ad 21, ad 14, ad 22, ad 23, ad 24, ad 25, ad 26, ad 27, ad 28, ad 10, ad 29, ad 31, ad 32, ad 30, ad 33, ad 34, ad 11, ad 35, ad 37, ad 38, ad 39, ad 40, ad 36, ad 41, ad 42, ad 43, ad 44, ad 1, ad 2, ad 45, ad 50, ad 51, ad 52, ad 53, ad 54, ad 55, ad 56, ad 46, ad 57, ad 58, ad 47, ad 59, ad 60, ad 61, ad 62, ad 48, ad 49, ad 3, ad 63, ad 68, ad 69, ad 70, ad 71, ad 72, ad 73, ad 64, ad 65, ad 66, ad 67, ad 4, ad 74, ad 75, ad 76, ad 77, ad 78, ad 79, ad 80, ad 81, ad 5, ad 82, ad 83, ad 84, ad 6, ad 85, ad 86, ad 87, ad 88, ad 89, ad 90].getD i 0) 29, .inl (cy 5, 2, .inr (.inr (.inr (.inr (fun k => zrv (fun i => [h0, ad 0, ad 7, ad 12, ad 8, ad 9, ad 13, ad 15, ad 16, ad 17, ad 18, ad 19, ad 20, ad 21, ad 14, ad 22, ad 23, ad 24, ad 25, ad 26, ad 27, ad 28, ad 10, ad 29, ad 31, ad 32, ad 30, ad 33, ad 34, ad 11, ad 35, ad 37, ad 38, ad 39, ad 40, ad 36, ad 41, ad 42, ad 43, ad 44, ad 1, ad 2, ad 45, ad 50, ad 51, ad 52, ad 53, ad 54, ad 55, ad 56, ad 46, ad 57, ad 58, ad 47, ad 59, ad 60, ad 61, ad 62, ad 48, ad 49, ad 3, ad 63, ad 68, ad 69, ad 70, ad 71, ad 72, ad 73, ad 64, ad 65, ad 66, ad 67, ad 4, ad 74, ad 75, ad 76, ad 77, ad 78, ad 79, ad 80, ad 81, ad 5, ad 82, ad 83, ad 84, ad 6, ad 85, ad 86, ad 87, ad 88, ad 89, ad 90].getD i 0) ([.inr 30, .inr 35].getD k (.inl (-1))))))))) H
    rw [ar2_v]
    exact hP 29 _ rfl
  | 30, _ => exact hP 30 _ rfl
  | 31, _ => exact hP 31 _ rfl
  | 32, _ => exact hP 32 _ rfl
  | 33, _ => exact hP 33 _ rfl
  | 34, _ => exact hP 34 _ rfl
  | 35, _ => exact hP 35 _ rfl
  | 36, _ => exact hP 36 _ rfl
  | 37, _ => exact hP 37 _ rfl
  | 38, _ => exact hP 38 _ rfl
  | 39, _ => exact hP 39 _ rfl
  | 40, _ => exact hP 40 _ rfl
  | 41, _ => exact hP 41 _ rfl
  | 42, _ => exact hP 42 _ rfl
  | 43, _ => exact hP 43 _ rfl
  | 44, _ => exact hP 44 _ rfl
  | 45, _ => exact hP 45 _ rfl
  | 46, _ => exact hP 46 _ rfl
  | 47, _ => exact hP 47 _ rfl
  | 48, _ => exact hP 48 _ rfl
  | 49, _ => exact hP 49 _ rfl
  | 50, _ => exact hP 50 _ rfl
  | 51, _ => exact hP 51 _ rfl
  | 52, _ => exact hP 52 _ rfl
  | 53, _ => exact hP 53 _ rfl
  | 54, _ => exact hP 54 _ rfl
  | 55, _ => exact hP 55 _ rfl
  | 56, _ => exact hP 56 _ rfl
  | 57, _ => exact hP 57 _ rfl
  | 58, _ => exact hP 58 _ rfl
  | 59, _ => exact hP 59 _ rfl
  | 60, _ => exact hP 60 _ rfl
  | 61, _ => exact hP 61 _ rfl
  | 62, _ => exact hP 62 _ rfl
  | 63, _ => exact hP 63 _ rfl
  | 64, _ => exact hP 64 _ rfl
  | 65, _ => exact hP 65 _ rfl
  | 66, _ => exact hP 66 _ rfl
  | 67, _ => exact hP 67 _ rfl
  | 68, _ => exact hP 68 _ rfl
  | 69, _ => exact hP 69 _ rfl
  | 70, _ => exact hP 70 _ rfl
  | 71, _ => exact hP 71 _ rfl
  | 72, _ => exact hP 72 _ rfl
  | 73, _ => exact hP 73 _ rfl
  | 74, _ => exact hP 74 _ rfl
  | 75, _ => exact hP 75 _ rfl
  | 76, _ => exact hP 76 _ rfl
  | 77, _ => exact hP 77 _ rfl
  | 78, _ => exact hP 78 _ rfl
  | 79, _ => exact hP 79 _ rfl
  | 80, _ => exact hP 80 _ rfl
  | 81, _ => exact hP 81 _ rfl
  | 82, _ => exact hP 82 _ rfl
  | 83, _ => exact hP 83 _ rfl
  | 84, _ => exact hP 84 _ rfl
  | 85, _ => exact hP 85 _ rfl
  | 86, _ => exact hP 86 _ rfl
  | 87, _ => exact hP 87 _ rfl
  | 88, _ => exact hP 88 _ rfl
  | 89, _ => exact hP 89 _ rfl
  | 90, _ => exact hP 90 _ rfl
  | 91, _ => exact hP 91 _ rfl
  | i + 92, hi => exact absurd hi (by show ¬ (i + 92 < 92); omega)
set_option maxHeartbeats 4000000 in
set_option maxRecDepth 100000 in
theorem zr_at {D : va_G} {cy : Nat → ClassId} {h0 q_1 q_2 q_3 q_4 q_5 q_6 q_7 q_8 q_9 q_10 q_11 q_12 q_13 q_14 q_15 q_16 q_17 q_18 q_19 q_20 q_21 q_22 q_23 q_24 q_25 q_26 q_27 q_28 q_29 q_30 q_31 q_32 q_33 q_34 q_35 : Nat} {H : Heap} (hP : va_P D vwCl [(h0, .inr (12, [.int 0, .ref q_1, .ref q_2, .ref q_3, .ref q_4, .ref q_5, .ref q_6, .ref q_7, .ref q_8, .int 0, .int 0, .int 0, .int 0, .int 0, .long 0, .int 0, .int 0, .int 0, .ref q_9, .ref q_10, .int 0, .int 0, .int 0, .int 0, .int 0, .int 0, .int 0, .int 0, .int 0, .int 0, .ref q_11, .ref q_12, .ref q_13, .int 0, .int 0, .int 0, .ref q_14, .ref q_15, .ref q_16, .ref q_17, .ref q_18, .ref q_19, .ref q_20, .ref q_21, .ref q_22, .ref q_23, .ref q_24, .ref q_25, .ref q_26, .int 0, .int 0, .int 0, .ref q_27, .ref q_28, .ref q_29, .int 0, .int 0, .int 0, .ref q_30, .ref q_31, .ref q_32, .ref q_33, .ref q_34, .ref q_35])), (q_1, .inl (cy 1, 2400, .inl (fun _ => 0))), (q_2, .inl (cy 0, 4, .inl (fun _ => 0))), (q_3, .inl (cy 0, 4, .inl (fun _ => 0))), (q_4, .inl (cy 0, 4, .inl (upd (fun _ => 0) 0 (-1)))), (q_5, .inl (cy 0, 12, .inl (fun _ => 0))), (q_6, .inl (cy 0, 400, .inl (fun _ => 0))), (q_7, .inl (cy 0, 968, .inl (fun _ => 0))), (q_8, .inl (cy 0, 416, .inl (fun _ => 0))), (q_9, .inl (cy 0, 121, .inl (fun _ => 0))), (q_10, .inl (cy 0, 5, .inl (fun _ => 0))), (q_11, .inl (cy 0, 6, .inl (fun _ => 0))), (q_12, .inl (cy 0, 6, .inl (fun _ => 0))), (q_13, .inl (cy 0, 6, .inl (fun _ => 0))), (q_14, .inl (cy 0, 6, .inl (fun _ => 0))), (q_15, .inl (cy 0, 6, .inl (fun _ => 0))), (q_16, .inl (cy 0, 6, .inl (fun _ => 0))), (q_17, .inl (cy 0, 6, .inl (fun _ => 0))), (q_18, .inl (cy 0, 6, .inl (fun _ => 0))), (q_19, .inl (cy 0, 6, .inl (fun _ => 0))), (q_20, .inl (cy 0, 6, .inl (fun _ => 0))), (q_21, .inl (cy 0, 6, .inl (fun _ => 0))), (q_22, .inl (cy 0, 30, .inl (fun _ => 0))), (q_23, .inl (cy 0, 30, .inl (fun _ => 0))), (q_24, .inl (cy 0, 30, .inl (fun _ => 0))), (q_25, .inl (cy 0, 30, .inl (fun _ => 0))), (q_26, .inl (cy 0, 30, .inl (fun _ => 0))), (q_27, .inl (cy 2, 1984, .inl (fun _ => 0))), (q_28, .inl (cy 2, 1984, .inl (fun _ => 0))), (q_29, .inl (cy 0, 30, .inl (fun _ => 0))), (q_30, .inl (cy 0, 9, .inl (fun _ => 0))), (q_31, .inl (cy 0, 512, .inl (fun _ => 0))), (q_32, .inl (cy 0, 9, .inl (fun _ => 0))), (q_33, .inl (cy 0, 9, .inl (fun _ => 0))), (q_34, .inl (cy 0, 9, .inl (fun _ => 0))), (q_35, .inl (cy 2, 3, .inl (fun _ => 0)))] H) (i : Nat) (hi : i < zTr.length) : va_at D vwCl ((fun i => [h0, q_1, q_2, q_3, q_4, q_5, q_6, q_7, q_8, q_9, q_10, q_11, q_12, q_13, q_14, q_15, q_16, q_17, q_18, q_19, q_20, q_21, q_22, q_23, q_24, q_25, q_26, q_27, q_28, q_29, q_30, q_31, q_32, q_33, q_34, q_35].getD i 0) i, zEv (fun i => [h0, q_1, q_2, q_3, q_4, q_5, q_6, q_7, q_8, q_9, q_10, q_11, q_12, q_13, q_14, q_15, q_16, q_17, q_18, q_19, q_20, q_21, q_22, q_23, q_24, q_25, q_26, q_27, q_28, q_29, q_30, q_31, q_32, q_33, q_34, q_35].getD i 0) cy (zkT zkdm zTr i) (zTr.getD i (0, [])).2) H := by
  match i, hi with
  | 0, _ => exact hP 0 _ rfl
  | 1, _ => exact hP 1 _ rfl
  | 2, _ => exact hP 2 _ rfl
  | 3, _ => exact hP 3 _ rfl
  | 4, _ =>
    show va_at D vwCl ((fun i => [h0, q_1, q_2, q_3, q_4, q_5, q_6, q_7, q_8, q_9, q_10, q_11, q_12, q_13, q_14, q_15, q_16, q_17, q_18, q_19, q_20, q_21, q_22, q_23, q_24, q_25, q_26, q_27, q_28, q_29, q_30, q_31, q_32, q_33, q_34, q_35].getD i 0) 4, .inl (cy 0, 4, .inl (fun j => Int32.ofInt (znv ([.inl (-1)].getD j (.inl 0)))))) H
    rw [upd_v]
    exact hP 4 _ rfl
  | 5, _ => exact hP 5 _ rfl
  | 6, _ => exact hP 6 _ rfl
  | 7, _ => exact hP 7 _ rfl
  | 8, _ => exact hP 8 _ rfl
  | 9, _ => exact hP 9 _ rfl
  | 10, _ => exact hP 10 _ rfl
  | 11, _ => exact hP 11 _ rfl
  | 12, _ => exact hP 12 _ rfl
  | 13, _ => exact hP 13 _ rfl
  | 14, _ => exact hP 14 _ rfl
  | 15, _ => exact hP 15 _ rfl
  | 16, _ => exact hP 16 _ rfl
  | 17, _ => exact hP 17 _ rfl
  | 18, _ => exact hP 18 _ rfl
  | 19, _ => exact hP 19 _ rfl
  | 20, _ => exact hP 20 _ rfl
  | 21, _ => exact hP 21 _ rfl
  | 22, _ => exact hP 22 _ rfl
  | 23, _ => exact hP 23 _ rfl
  | 24, _ => exact hP 24 _ rfl
  | 25, _ => exact hP 25 _ rfl
  | 26, _ => exact hP 26 _ rfl
  | 27, _ => exact hP 27 _ rfl
  | 28, _ => exact hP 28 _ rfl
  | 29, _ => exact hP 29 _ rfl
  | 30, _ => exact hP 30 _ rfl
  | 31, _ => exact hP 31 _ rfl
  | 32, _ => exact hP 32 _ rfl
  | 33, _ => exact hP 33 _ rfl
  | 34, _ => exact hP 34 _ rfl
  | 35, _ => exact hP 35 _ rfl
  | i + 36, hi => exact absurd hi (by show ¬ (i + 36 < 36); omega)
set_option maxHeartbeats 4000000 in
set_option maxRecDepth 100000 in
theorem zi0_at {D : va_G} {cy : Nat → ClassId} {h0 q_1 q_6 q_7 q_8 q_9 q_14 q_15 q_16 q_17 q_18 q_19 q_20 q_21 q_26 q_27 q_28 q_29 q_30 q_31 q_32 q_33 q_34 q_39 q_40 q_41 q_46 q_47 q_48 q_49 q_54 q_55 q_56 q_57 q_58 q_63 q_64 q_65 q_66 : Nat} {H : Heap} (hP : va_P D vwCl [(h0, .inr (9, [.ref q_1, .ref q_7, .ref q_8, .ref q_33, .ref q_48, .int 0, .int (-1)])), (q_1, .inr (8, [.ref q_6, .int 0])), (q_6, .inl (cy 1, 600, .inl (fun _ => 0))), (q_7, .inl (cy 0, 3, .inl (fun _ => 0))), (q_8, .inl (cy 3, 2, .inr (.inr (.inr (.inr (ar2 q_9 q_21)))))), (q_9, .inr (6, [.int 0, .int 0, .int 0, .int 0, .int 0, .ref q_14, .int 0, .ref q_15, .ref q_16, .ref q_17, .int 0, .ref q_18, .ref q_19, .ref q_20, .int 0])), (q_14, .inl (cy 0, 12, .inl (fun _ => 0))), (q_15, .inl (cy 0, 4, .inl (fun _ => 0))), (q_16, .inl (cy 0, 4, .inl (fun _ => 0))), (q_17, .inl (cy 0, 4, .inl (fun _ => 0))), (q_18, .inl (cy 0, 6, .inl (fun _ => 0))), (q_19, .inl (cy 0, 6, .inl (fun _ => 0))), (q_20, .inl (cy 0, 6, .inl (fun _ => 0))), (q_21, .inr (6, [.int 0, .int 0, .int 0, .int 0, .int 0, .ref q_26, .int 0, .ref q_27, .ref q_28, .ref q_29, .int 0, .ref q_30, .ref q_31, .ref q_32, .int 0])), (q_26, .inl (cy 0, 12, .inl (fun _ => 0))), (q_27, .inl (cy 0, 4, .inl (fun _ => 0))), (q_28, .inl (cy 0, 4, .inl (fun _ => 0))), (q_29, .inl (cy 0, 4, .inl (fun _ => 0))), (q_30, .inl (cy 0, 6, .inl (fun _ => 0))), (q_31, .inl (cy 0, 6, .inl (fun _ => 0))), (q_32, .inl (cy 0, 6, .inl (fun _ => 0))), (q_33, .inl (cy 4, 2, .inr (.inr (.inr (.inr (ar2 q_34 q_41)))))), (q_34, .inr (1, [.int 0, .ref q_39, .ref q_40])), (q_39, .inl (cy 0, 30, .inl (fun _ => 0))), (q_40, .inl (cy 0, 90, .inl (fun _ => 0))), (q_41, .inr (1, [.int 0, .ref q_46, .ref q_47])), (q_46, .inl (cy 0, 30, .inl (fun _ => 0))), (q_47, .inl (cy 0, 90, .inl (fun _ => 0))), (q_48, .inl (cy 5, 2, .inr (.inr (.inr (.inr (ar2 q_49 q_58)))))), (q_49, .inr (2, [.int 0, .ref q_54, .ref q_55, .int 0, .ref q_56, .ref q_57])), (q_54, .inl (cy 0, 9, .inl (fun _ => 0))), (q_55, .inl (cy 0, 9, .inl (fun _ => 0))), (q_56, .inl (cy 0, 16, .inl (fun _ => 0))), (q_57, .inl (cy 0, 16, .inl (fun _ => 0))), (q_58, .inr (2, [.int 0, .ref q_63, .ref q_64, .int 0, .ref q_65, .ref q_66])), (q_63, .inl (cy 0, 9, .inl (fun _ => 0))), (q_64, .inl (cy 0, 9, .inl (fun _ => 0))), (q_65, .inl (cy 0, 16, .inl (fun _ => 0))), (q_66, .inl (cy 0, 16, .inl (fun _ => 0)))] H) (i : Nat) (hi : i < zTi0.length) : va_at D vwCl ((fun i => [h0, q_1, q_6, q_7, q_8, q_9, q_14, q_15, q_16, q_17, q_18, q_19, q_20, q_21, q_26, q_27, q_28, q_29, q_30, q_31, q_32, q_33, q_34, q_39, q_40, q_41, q_46, q_47, q_48, q_49, q_54, q_55, q_56, q_57, q_58, q_63, q_64, q_65, q_66].getD i 0) i, zEv (fun i => [h0, q_1, q_6, q_7, q_8, q_9, q_14, q_15, q_16, q_17, q_18, q_19, q_20, q_21, q_26, q_27, q_28, q_29, q_30, q_31, q_32, q_33, q_34, q_39, q_40, q_41, q_46, q_47, q_48, q_49, q_54, q_55, q_56, q_57, q_58, q_63, q_64, q_65, q_66].getD i 0) cy (zkT zkds zTi0 i) (zTi0.getD i (0, [])).2) H := by
  match i, hi with
  | 0, _ => exact hP 0 _ rfl
  | 1, _ => exact hP 1 _ rfl
  | 2, _ => exact hP 2 _ rfl
  | 3, _ => exact hP 3 _ rfl
  | 4, _ =>
    show va_at D vwCl ((fun i => [h0, q_1, q_6, q_7, q_8, q_9, q_14, q_15, q_16, q_17, q_18, q_19, q_20, q_21, q_26, q_27, q_28, q_29, q_30, q_31, q_32, q_33, q_34, q_39, q_40, q_41, q_46, q_47, q_48, q_49, q_54, q_55, q_56, q_57, q_58, q_63, q_64, q_65, q_66].getD i 0) 4, .inl (cy 3, 2, .inr (.inr (.inr (.inr (fun k => zrv (fun i => [h0, q_1, q_6, q_7, q_8, q_9, q_14, q_15, q_16, q_17, q_18, q_19, q_20, q_21, q_26, q_27, q_28, q_29, q_30, q_31, q_32, q_33, q_34, q_39, q_40, q_41, q_46, q_47, q_48, q_49, q_54, q_55, q_56, q_57, q_58, q_63, q_64, q_65, q_66].getD i 0) ([.inr 5, .inr 13].getD k (.inl (-1))))))))) H
    rw [ar2_v]
    exact hP 4 _ rfl
  | 5, _ => exact hP 5 _ rfl
  | 6, _ => exact hP 6 _ rfl
  | 7, _ => exact hP 7 _ rfl
  | 8, _ => exact hP 8 _ rfl
  | 9, _ => exact hP 9 _ rfl
  | 10, _ => exact hP 10 _ rfl
  | 11, _ => exact hP 11 _ rfl
  | 12, _ => exact hP 12 _ rfl
  | 13, _ => exact hP 13 _ rfl
  | 14, _ => exact hP 14 _ rfl
  | 15, _ => exact hP 15 _ rfl
  | 16, _ => exact hP 16 _ rfl
  | 17, _ => exact hP 17 _ rfl
  | 18, _ => exact hP 18 _ rfl
  | 19, _ => exact hP 19 _ rfl
  | 20, _ => exact hP 20 _ rfl
  | 21, _ =>
    show va_at D vwCl ((fun i => [h0, q_1, q_6, q_7, q_8, q_9, q_14, q_15, q_16, q_17, q_18, q_19, q_20, q_21, q_26, q_27, q_28, q_29, q_30, q_31, q_32, q_33, q_34, q_39, q_40, q_41, q_46, q_47, q_48, q_49, q_54, q_55, q_56, q_57, q_58, q_63, q_64, q_65, q_66].getD i 0) 21, .inl (cy 4, 2, .inr (.inr (.inr (.inr (fun k => zrv (fun i => [h0, q_1, q_6, q_7, q_8, q_9, q_14, q_15, q_16, q_17, q_18, q_19, q_20, q_21, q_26, q_27, q_28, q_29, q_30, q_31, q_32, q_33, q_34, q_39, q_40, q_41, q_46, q_47, q_48, q_49, q_54, q_55, q_56, q_57, q_58, q_63, q_64, q_65, q_66].getD i 0) ([.inr 22, .inr 25].getD k (.inl (-1))))))))) H
    rw [ar2_v]
    exact hP 21 _ rfl
  | 22, _ => exact hP 22 _ rfl
  | 23, _ => exact hP 23 _ rfl
  | 24, _ => exact hP 24 _ rfl
  | 25, _ => exact hP 25 _ rfl
  | 26, _ => exact hP 26 _ rfl
  | 27, _ => exact hP 27 _ rfl
  | 28, _ =>
    show va_at D vwCl ((fun i => [h0, q_1, q_6, q_7, q_8, q_9, q_14, q_15, q_16, q_17, q_18, q_19, q_20, q_21, q_26, q_27, q_28, q_29, q_30, q_31, q_32, q_33, q_34, q_39, q_40, q_41, q_46, q_47, q_48, q_49, q_54, q_55, q_56, q_57, q_58, q_63, q_64, q_65, q_66].getD i 0) 28, .inl (cy 5, 2, .inr (.inr (.inr (.inr (fun k => zrv (fun i => [h0, q_1, q_6, q_7, q_8, q_9, q_14, q_15, q_16, q_17, q_18, q_19, q_20, q_21, q_26, q_27, q_28, q_29, q_30, q_31, q_32, q_33, q_34, q_39, q_40, q_41, q_46, q_47, q_48, q_49, q_54, q_55, q_56, q_57, q_58, q_63, q_64, q_65, q_66].getD i 0) ([.inr 29, .inr 34].getD k (.inl (-1))))))))) H
    rw [ar2_v]
    exact hP 28 _ rfl
  | 29, _ => exact hP 29 _ rfl
  | 30, _ => exact hP 30 _ rfl
  | 31, _ => exact hP 31 _ rfl
  | 32, _ => exact hP 32 _ rfl
  | 33, _ => exact hP 33 _ rfl
  | 34, _ => exact hP 34 _ rfl
  | 35, _ => exact hP 35 _ rfl
  | 36, _ => exact hP 36 _ rfl
  | 37, _ => exact hP 37 _ rfl
  | 38, _ => exact hP 38 _ rfl
  | i + 39, hi => exact absurd hi (by show ¬ (i + 39 < 39); omega)
set_option maxHeartbeats 4000000 in
set_option maxRecDepth 100000 in
theorem zi1_at {D : va_G} {cy : Nat → ClassId} {h0 q_1 q_6 q_7 q_8 q_9 q_14 q_15 q_16 q_17 q_18 q_19 q_20 q_21 q_26 q_27 q_28 q_29 q_30 q_31 q_32 q_33 q_34 q_39 q_40 q_41 q_46 q_47 q_48 q_49 q_54 q_55 q_56 q_57 q_58 q_63 q_64 q_65 q_66 : Nat} {H : Heap} (hP : va_P D vwCl [(h0, .inr (9, [.ref q_1, .ref q_7, .ref q_8, .ref q_33, .ref q_48, .int 0, .int (-1)])), (q_1, .inr (8, [.ref q_6, .int 0])), (q_6, .inl (cy 1, 600, .inl (fun _ => 0))), (q_7, .inl (cy 0, 3, .inl (fun _ => 0))), (q_8, .inl (cy 3, 2, .inr (.inr (.inr (.inr (ar2 q_9 q_21)))))), (q_9, .inr (6, [.int 0, .int 0, .int 0, .int 0, .int 0, .ref q_14, .int 0, .ref q_15, .ref q_16, .ref q_17, .int 0, .ref q_18, .ref q_19, .ref q_20, .int 0])), (q_14, .inl (cy 0, 12, .inl (fun _ => 0))), (q_15, .inl (cy 0, 4, .inl (fun _ => 0))), (q_16, .inl (cy 0, 4, .inl (fun _ => 0))), (q_17, .inl (cy 0, 4, .inl (fun _ => 0))), (q_18, .inl (cy 0, 6, .inl (fun _ => 0))), (q_19, .inl (cy 0, 6, .inl (fun _ => 0))), (q_20, .inl (cy 0, 6, .inl (fun _ => 0))), (q_21, .inr (6, [.int 0, .int 0, .int 0, .int 0, .int 0, .ref q_26, .int 0, .ref q_27, .ref q_28, .ref q_29, .int 0, .ref q_30, .ref q_31, .ref q_32, .int 0])), (q_26, .inl (cy 0, 12, .inl (fun _ => 0))), (q_27, .inl (cy 0, 4, .inl (fun _ => 0))), (q_28, .inl (cy 0, 4, .inl (fun _ => 0))), (q_29, .inl (cy 0, 4, .inl (fun _ => 0))), (q_30, .inl (cy 0, 6, .inl (fun _ => 0))), (q_31, .inl (cy 0, 6, .inl (fun _ => 0))), (q_32, .inl (cy 0, 6, .inl (fun _ => 0))), (q_33, .inl (cy 4, 2, .inr (.inr (.inr (.inr (ar2 q_34 q_41)))))), (q_34, .inr (1, [.int 0, .ref q_39, .ref q_40])), (q_39, .inl (cy 0, 30, .inl (fun _ => 0))), (q_40, .inl (cy 0, 90, .inl (fun _ => 0))), (q_41, .inr (1, [.int 0, .ref q_46, .ref q_47])), (q_46, .inl (cy 0, 30, .inl (fun _ => 0))), (q_47, .inl (cy 0, 90, .inl (fun _ => 0))), (q_48, .inl (cy 5, 2, .inr (.inr (.inr (.inr (ar2 q_49 q_58)))))), (q_49, .inr (2, [.int 0, .ref q_54, .ref q_55, .int 0, .ref q_56, .ref q_57])), (q_54, .inl (cy 0, 9, .inl (fun _ => 0))), (q_55, .inl (cy 0, 9, .inl (fun _ => 0))), (q_56, .inl (cy 0, 16, .inl (fun _ => 0))), (q_57, .inl (cy 0, 16, .inl (fun _ => 0))), (q_58, .inr (2, [.int 0, .ref q_63, .ref q_64, .int 0, .ref q_65, .ref q_66])), (q_63, .inl (cy 0, 9, .inl (fun _ => 0))), (q_64, .inl (cy 0, 9, .inl (fun _ => 0))), (q_65, .inl (cy 0, 16, .inl (fun _ => 0))), (q_66, .inl (cy 0, 16, .inl (fun _ => 0)))] H) (i : Nat) (hi : i < zTi1.length) : va_at D vwCl ((fun i => [h0, q_1, q_6, q_7, q_8, q_9, q_14, q_15, q_16, q_17, q_18, q_19, q_20, q_21, q_26, q_27, q_28, q_29, q_30, q_31, q_32, q_33, q_34, q_39, q_40, q_41, q_46, q_47, q_48, q_49, q_54, q_55, q_56, q_57, q_58, q_63, q_64, q_65, q_66].getD i 0) i, zEv (fun i => [h0, q_1, q_6, q_7, q_8, q_9, q_14, q_15, q_16, q_17, q_18, q_19, q_20, q_21, q_26, q_27, q_28, q_29, q_30, q_31, q_32, q_33, q_34, q_39, q_40, q_41, q_46, q_47, q_48, q_49, q_54, q_55, q_56, q_57, q_58, q_63, q_64, q_65, q_66].getD i 0) cy (zkT zkds zTi1 i) (zTi1.getD i (0, [])).2) H := by
  match i, hi with
  | 0, _ => exact hP 0 _ rfl
  | 1, _ => exact hP 1 _ rfl
  | 2, _ => exact hP 2 _ rfl
  | 3, _ => exact hP 3 _ rfl
  | 4, _ =>
    show va_at D vwCl ((fun i => [h0, q_1, q_6, q_7, q_8, q_9, q_14, q_15, q_16, q_17, q_18, q_19, q_20, q_21, q_26, q_27, q_28, q_29, q_30, q_31, q_32, q_33, q_34, q_39, q_40, q_41, q_46, q_47, q_48, q_49, q_54, q_55, q_56, q_57, q_58, q_63, q_64, q_65, q_66].getD i 0) 4, .inl (cy 3, 2, .inr (.inr (.inr (.inr (fun k => zrv (fun i => [h0, q_1, q_6, q_7, q_8, q_9, q_14, q_15, q_16, q_17, q_18, q_19, q_20, q_21, q_26, q_27, q_28, q_29, q_30, q_31, q_32, q_33, q_34, q_39, q_40, q_41, q_46, q_47, q_48, q_49, q_54, q_55, q_56, q_57, q_58, q_63, q_64, q_65, q_66].getD i 0) ([.inr 5, .inr 13].getD k (.inl (-1))))))))) H
    rw [ar2_v]
    exact hP 4 _ rfl
  | 5, _ => exact hP 5 _ rfl
  | 6, _ => exact hP 6 _ rfl
  | 7, _ => exact hP 7 _ rfl
  | 8, _ => exact hP 8 _ rfl
  | 9, _ => exact hP 9 _ rfl
  | 10, _ => exact hP 10 _ rfl
  | 11, _ => exact hP 11 _ rfl
  | 12, _ => exact hP 12 _ rfl
  | 13, _ => exact hP 13 _ rfl
  | 14, _ => exact hP 14 _ rfl
  | 15, _ => exact hP 15 _ rfl
  | 16, _ => exact hP 16 _ rfl
  | 17, _ => exact hP 17 _ rfl
  | 18, _ => exact hP 18 _ rfl
  | 19, _ => exact hP 19 _ rfl
  | 20, _ => exact hP 20 _ rfl
  | 21, _ =>
    show va_at D vwCl ((fun i => [h0, q_1, q_6, q_7, q_8, q_9, q_14, q_15, q_16, q_17, q_18, q_19, q_20, q_21, q_26, q_27, q_28, q_29, q_30, q_31, q_32, q_33, q_34, q_39, q_40, q_41, q_46, q_47, q_48, q_49, q_54, q_55, q_56, q_57, q_58, q_63, q_64, q_65, q_66].getD i 0) 21, .inl (cy 4, 2, .inr (.inr (.inr (.inr (fun k => zrv (fun i => [h0, q_1, q_6, q_7, q_8, q_9, q_14, q_15, q_16, q_17, q_18, q_19, q_20, q_21, q_26, q_27, q_28, q_29, q_30, q_31, q_32, q_33, q_34, q_39, q_40, q_41, q_46, q_47, q_48, q_49, q_54, q_55, q_56, q_57, q_58, q_63, q_64, q_65, q_66].getD i 0) ([.inr 22, .inr 25].getD k (.inl (-1))))))))) H
    rw [ar2_v]
    exact hP 21 _ rfl
  | 22, _ => exact hP 22 _ rfl
  | 23, _ => exact hP 23 _ rfl
  | 24, _ => exact hP 24 _ rfl
  | 25, _ => exact hP 25 _ rfl
  | 26, _ => exact hP 26 _ rfl
  | 27, _ => exact hP 27 _ rfl
  | 28, _ =>
    show va_at D vwCl ((fun i => [h0, q_1, q_6, q_7, q_8, q_9, q_14, q_15, q_16, q_17, q_18, q_19, q_20, q_21, q_26, q_27, q_28, q_29, q_30, q_31, q_32, q_33, q_34, q_39, q_40, q_41, q_46, q_47, q_48, q_49, q_54, q_55, q_56, q_57, q_58, q_63, q_64, q_65, q_66].getD i 0) 28, .inl (cy 5, 2, .inr (.inr (.inr (.inr (fun k => zrv (fun i => [h0, q_1, q_6, q_7, q_8, q_9, q_14, q_15, q_16, q_17, q_18, q_19, q_20, q_21, q_26, q_27, q_28, q_29, q_30, q_31, q_32, q_33, q_34, q_39, q_40, q_41, q_46, q_47, q_48, q_49, q_54, q_55, q_56, q_57, q_58, q_63, q_64, q_65, q_66].getD i 0) ([.inr 29, .inr 34].getD k (.inl (-1))))))))) H
    rw [ar2_v]
    exact hP 28 _ rfl
  | 29, _ => exact hP 29 _ rfl
  | 30, _ => exact hP 30 _ rfl
  | 31, _ => exact hP 31 _ rfl
  | 32, _ => exact hP 32 _ rfl
  | 33, _ => exact hP 33 _ rfl
  | 34, _ => exact hP 34 _ rfl
  | 35, _ => exact hP 35 _ rfl
  | 36, _ => exact hP 36 _ rfl
  | 37, _ => exact hP 37 _ rfl
  | 38, _ => exact hP 38 _ rfl
  | i + 39, hi => exact absurd hi (by show ¬ (i + 39 < 39); omega)
set_option maxHeartbeats 4000000 in
set_option maxRecDepth 100000 in
theorem zi2_at {D : va_G} {cy : Nat → ClassId} {h0 q_1 q_6 q_7 q_8 q_9 q_14 q_15 q_16 q_17 q_18 q_19 q_20 q_21 q_26 q_27 q_28 q_29 q_30 q_31 q_32 q_33 q_34 q_39 q_40 q_41 q_46 q_47 q_48 q_49 q_54 q_55 q_56 q_57 q_58 q_63 q_64 q_65 q_66 : Nat} {H : Heap} (hP : va_P D vwCl [(h0, .inr (9, [.ref q_1, .ref q_7, .ref q_8, .ref q_33, .ref q_48, .int 0, .int (-1)])), (q_1, .inr (8, [.ref q_6, .int 0])), (q_6, .inl (cy 1, 600, .inl (fun _ => 0))), (q_7, .inl (cy 0, 3, .inl (fun _ => 0))), (q_8, .inl (cy 3, 2, .inr (.inr (.inr (.inr (ar2 q_9 q_21)))))), (q_9, .inr (6, [.int 0, .int 0, .int 0, .int 0, .int 0, .ref q_14, .int 0, .ref q_15, .ref q_16, .ref q_17, .int 0, .ref q_18, .ref q_19, .ref q_20, .int 0])), (q_14, .inl (cy 0, 12, .inl (fun _ => 0))), (q_15, .inl (cy 0, 4, .inl (fun _ => 0))), (q_16, .inl (cy 0, 4, .inl (fun _ => 0))), (q_17, .inl (cy 0, 4, .inl (fun _ => 0))), (q_18, .inl (cy 0, 6, .inl (fun _ => 0))), (q_19, .inl (cy 0, 6, .inl (fun _ => 0))), (q_20, .inl (cy 0, 6, .inl (fun _ => 0))), (q_21, .inr (6, [.int 0, .int 0, .int 0, .int 0, .int 0, .ref q_26, .int 0, .ref q_27, .ref q_28, .ref q_29, .int 0, .ref q_30, .ref q_31, .ref q_32, .int 0])), (q_26, .inl (cy 0, 12, .inl (fun _ => 0))), (q_27, .inl (cy 0, 4, .inl (fun _ => 0))), (q_28, .inl (cy 0, 4, .inl (fun _ => 0))), (q_29, .inl (cy 0, 4, .inl (fun _ => 0))), (q_30, .inl (cy 0, 6, .inl (fun _ => 0))), (q_31, .inl (cy 0, 6, .inl (fun _ => 0))), (q_32, .inl (cy 0, 6, .inl (fun _ => 0))), (q_33, .inl (cy 4, 2, .inr (.inr (.inr (.inr (ar2 q_34 q_41)))))), (q_34, .inr (1, [.int 0, .ref q_39, .ref q_40])), (q_39, .inl (cy 0, 30, .inl (fun _ => 0))), (q_40, .inl (cy 0, 90, .inl (fun _ => 0))), (q_41, .inr (1, [.int 0, .ref q_46, .ref q_47])), (q_46, .inl (cy 0, 30, .inl (fun _ => 0))), (q_47, .inl (cy 0, 90, .inl (fun _ => 0))), (q_48, .inl (cy 5, 2, .inr (.inr (.inr (.inr (ar2 q_49 q_58)))))), (q_49, .inr (2, [.int 0, .ref q_54, .ref q_55, .int 0, .ref q_56, .ref q_57])), (q_54, .inl (cy 0, 9, .inl (fun _ => 0))), (q_55, .inl (cy 0, 9, .inl (fun _ => 0))), (q_56, .inl (cy 0, 16, .inl (fun _ => 0))), (q_57, .inl (cy 0, 16, .inl (fun _ => 0))), (q_58, .inr (2, [.int 0, .ref q_63, .ref q_64, .int 0, .ref q_65, .ref q_66])), (q_63, .inl (cy 0, 9, .inl (fun _ => 0))), (q_64, .inl (cy 0, 9, .inl (fun _ => 0))), (q_65, .inl (cy 0, 16, .inl (fun _ => 0))), (q_66, .inl (cy 0, 16, .inl (fun _ => 0)))] H) (i : Nat) (hi : i < zTi2.length) : va_at D vwCl ((fun i => [h0, q_1, q_6, q_7, q_8, q_9, q_14, q_15, q_16, q_17, q_18, q_19, q_20, q_21, q_26, q_27, q_28, q_29, q_30, q_31, q_32, q_33, q_34, q_39, q_40, q_41, q_46, q_47, q_48, q_49, q_54, q_55, q_56, q_57, q_58, q_63, q_64, q_65, q_66].getD i 0) i, zEv (fun i => [h0, q_1, q_6, q_7, q_8, q_9, q_14, q_15, q_16, q_17, q_18, q_19, q_20, q_21, q_26, q_27, q_28, q_29, q_30, q_31, q_32, q_33, q_34, q_39, q_40, q_41, q_46, q_47, q_48, q_49, q_54, q_55, q_56, q_57, q_58, q_63, q_64, q_65, q_66].getD i 0) cy (zkT zkds zTi2 i) (zTi2.getD i (0, [])).2) H := by
  match i, hi with
  | 0, _ => exact hP 0 _ rfl
  | 1, _ => exact hP 1 _ rfl
  | 2, _ => exact hP 2 _ rfl
  | 3, _ => exact hP 3 _ rfl
  | 4, _ =>
    show va_at D vwCl ((fun i => [h0, q_1, q_6, q_7, q_8, q_9, q_14, q_15, q_16, q_17, q_18, q_19, q_20, q_21, q_26, q_27, q_28, q_29, q_30, q_31, q_32, q_33, q_34, q_39, q_40, q_41, q_46, q_47, q_48, q_49, q_54, q_55, q_56, q_57, q_58, q_63, q_64, q_65, q_66].getD i 0) 4, .inl (cy 3, 2, .inr (.inr (.inr (.inr (fun k => zrv (fun i => [h0, q_1, q_6, q_7, q_8, q_9, q_14, q_15, q_16, q_17, q_18, q_19, q_20, q_21, q_26, q_27, q_28, q_29, q_30, q_31, q_32, q_33, q_34, q_39, q_40, q_41, q_46, q_47, q_48, q_49, q_54, q_55, q_56, q_57, q_58, q_63, q_64, q_65, q_66].getD i 0) ([.inr 5, .inr 13].getD k (.inl (-1))))))))) H
    rw [ar2_v]
    exact hP 4 _ rfl
  | 5, _ => exact hP 5 _ rfl
  | 6, _ => exact hP 6 _ rfl
  | 7, _ => exact hP 7 _ rfl
  | 8, _ => exact hP 8 _ rfl
  | 9, _ => exact hP 9 _ rfl
  | 10, _ => exact hP 10 _ rfl
  | 11, _ => exact hP 11 _ rfl
  | 12, _ => exact hP 12 _ rfl
  | 13, _ => exact hP 13 _ rfl
  | 14, _ => exact hP 14 _ rfl
  | 15, _ => exact hP 15 _ rfl
  | 16, _ => exact hP 16 _ rfl
  | 17, _ => exact hP 17 _ rfl
  | 18, _ => exact hP 18 _ rfl
  | 19, _ => exact hP 19 _ rfl
  | 20, _ => exact hP 20 _ rfl
  | 21, _ =>
    show va_at D vwCl ((fun i => [h0, q_1, q_6, q_7, q_8, q_9, q_14, q_15, q_16, q_17, q_18, q_19, q_20, q_21, q_26, q_27, q_28, q_29, q_30, q_31, q_32, q_33, q_34, q_39, q_40, q_41, q_46, q_47, q_48, q_49, q_54, q_55, q_56, q_57, q_58, q_63, q_64, q_65, q_66].getD i 0) 21, .inl (cy 4, 2, .inr (.inr (.inr (.inr (fun k => zrv (fun i => [h0, q_1, q_6, q_7, q_8, q_9, q_14, q_15, q_16, q_17, q_18, q_19, q_20, q_21, q_26, q_27, q_28, q_29, q_30, q_31, q_32, q_33, q_34, q_39, q_40, q_41, q_46, q_47, q_48, q_49, q_54, q_55, q_56, q_57, q_58, q_63, q_64, q_65, q_66].getD i 0) ([.inr 22, .inr 25].getD k (.inl (-1))))))))) H
    rw [ar2_v]
    exact hP 21 _ rfl
  | 22, _ => exact hP 22 _ rfl
  | 23, _ => exact hP 23 _ rfl
  | 24, _ => exact hP 24 _ rfl
  | 25, _ => exact hP 25 _ rfl
  | 26, _ => exact hP 26 _ rfl
  | 27, _ => exact hP 27 _ rfl
  | 28, _ =>
    show va_at D vwCl ((fun i => [h0, q_1, q_6, q_7, q_8, q_9, q_14, q_15, q_16, q_17, q_18, q_19, q_20, q_21, q_26, q_27, q_28, q_29, q_30, q_31, q_32, q_33, q_34, q_39, q_40, q_41, q_46, q_47, q_48, q_49, q_54, q_55, q_56, q_57, q_58, q_63, q_64, q_65, q_66].getD i 0) 28, .inl (cy 5, 2, .inr (.inr (.inr (.inr (fun k => zrv (fun i => [h0, q_1, q_6, q_7, q_8, q_9, q_14, q_15, q_16, q_17, q_18, q_19, q_20, q_21, q_26, q_27, q_28, q_29, q_30, q_31, q_32, q_33, q_34, q_39, q_40, q_41, q_46, q_47, q_48, q_49, q_54, q_55, q_56, q_57, q_58, q_63, q_64, q_65, q_66].getD i 0) ([.inr 29, .inr 34].getD k (.inl (-1))))))))) H
    rw [ar2_v]
    exact hP 28 _ rfl
  | 29, _ => exact hP 29 _ rfl
  | 30, _ => exact hP 30 _ rfl
  | 31, _ => exact hP 31 _ rfl
  | 32, _ => exact hP 32 _ rfl
  | 33, _ => exact hP 33 _ rfl
  | 34, _ => exact hP 34 _ rfl
  | 35, _ => exact hP 35 _ rfl
  | 36, _ => exact hP 36 _ rfl
  | 37, _ => exact hP 37 _ rfl
  | 38, _ => exact hP 38 _ rfl
  | i + 39, hi => exact absurd hi (by show ¬ (i + 39 < 39); omega)
