section
variable {η : zRn}
/-! the cells that the constructors make -/
theorem ar2_v (AD : Nat → Nat) (i j : Nat) : (fun k => zrv AD ([.inr i, .inr j].getD k (.inl (-1)))) = ar2 (AD i) (AD j) := by
  funext k
  match k with
  | 0 => rfl
  | 1 => rfl
  | k + 2 => rfl
theorem upd_v : (fun j => Int32.ofInt (znv ([.inl (-1)].getD j (.inl 0)))) = upd (fun _ => (0 : Int32)) 0 (-1) := by
  funext k
  match k with
  | 0 => rfl
  | k + 1 => rfl
def zTc : zTm := [(63, [.inr 1, .inr 40, .inr 41, .inr 60, .inr 72, .inr 81, .inr 85]), (28, [.inr 2, .inr 4, .inr 5, .inr 22, .inr 29, .inl 0, .inl (-1)]), (1, [.inr 3, .inl 0]), (0, []), (24, []), (25, [.inr 6, .inr 14]), (15, [.inl 0, .inl 0, .inl 0, .inl 0, .inl 0, .inr 7, .inl 0, .inr 8, .inr 9, .inr 10, .inl 0, .inr 11, .inr 12, .inr 13, .inl 0]), (8, []), (9, []), (10, []), (11, []), (12, []), (13, []), (14, []), (15, [.inl 0, .inl 0, .inl 0, .inl 0, .inl 0, .inr 15, .inl 0, .inr 16, .inr 17, .inr 18, .inl 0, .inr 19, .inr 20, .inr 21, .inl 0]), (8, []), (9, []), (10, []), (11, []), (12, []), (13, []), (14, []), (26, [.inr 23, .inr 26]), (18, [.inl 0, .inr 24, .inr 25]), (16, []), (17, []), (18, [.inl 0, .inr 27, .inr 28]), (16, []), (17, []), (27, [.inr 30, .inr 35]), (23, [.inl 0, .inr 31, .inr 32, .inl 0, .inr 33, .inr 34]), (19, []), (20, []), (21, []), (22, []), (23, [.inl 0, .inr 36, .inr 37, .inl 0, .inr 38, .inr 39]), (19, []), (20, []), (21, []), (22, []), (62, []), (34, [.inr 42, .inr 50, .inr 53, .inl 0, .inl 0, .inr 58, .inr 59, .inl 0, .inl 0, .inl 0]), (15, [.inl 0, .inl 0, .inl 0, .inl 0, .inl 0, .inr 43, .inl 0, .inr 44, .inr 45, .inr 46, .inl 0, .inr 47, .inr 48, .inr 49, .inl 0]), (8, []), (9, []), (10, []), (11, []), (12, []), (13, []), (14, []), (18, [.inl 0, .inr 51, .inr 52]), (16, []), (17, []), (23, [.inl 0, .inr 54, .inr 55, .inl 0, .inr 56, .inr 57]), (19, []), (20, []), (21, []), (22, []), (32, []), (33, []), (46, [.inl (-1), .inl (-1), .inr 61, .inr 68, .inr 69, .inr 70, .inl 0, .inl 0, .inl 0, .inl 0, .inl 0, .inl 0, .inl 0, .inl 0, .inl 0, .inr 71]), (41, [.inr 62, .inr 63, .inr 64, .inr 65, .inr 66, .inr 67, .inl 0, .inl 0]), (35, []), (36, []), (37, []), (38, []), (39, []), (40, []), (42, []), (43, []), (44, []), (45, []), (47, [.inl 0, .inl 0, .inl 0, .inr 73]), (15, [.inl 0, .inl 0, .inl 0, .inl 0, .inl 0, .inr 74, .inl 0, .inr 75, .inr 76, .inr 77, .inl 0, .inr 78, .inr 79, .inr 80, .inl 0]), (8, []), (9, []), (10, []), (11, []), (12, []), (13, []), (14, []), (51, [.inl 0, .inl 0, .inl 0, .inr 82, .inr 83, .inr 84, .inl 0]), (48, []), (49, []), (50, []), (58, [.inr 86, .inr 87, .inr 88, .inr 89, .inr 90, .inr 91]), (52, []), (53, []), (54, []), (55, []), (56, []), (57, [])]
set_option maxRecDepth 100000 in
theorem zTc_ok : zokT zkds zTc = true := by decide +kernel
set_option maxRecDepth 100000 in
theorem zTc_ox : zTc.all (fun q => zokx zTc.length (zkds.getD q.1 (0, 0, 0, [])) q.2) = true := by decide +kernel
def zTr : zTm := [(35, [.inl 0, .inr 1, .inr 2, .inr 3, .inr 4, .inr 5, .inr 6, .inr 7, .inr 8, .inl 0, .inl 0, .inl 0, .inl 0, .inl 0, .inl 0, .inl 0, .inl 0, .inl 0, .inr 9, .inr 10, .inl 0, .inl 0, .inl 0, .inl 0, .inl 0, .inl 0, .inl 0, .inl 0, .inl 0, .inl 0, .inr 11, .inr 12, .inr 13, .inl 0, .inl 0, .inl 0, .inr 14, .inr 15, .inr 16, .inr 17, .inr 18, .inr 19, .inr 20, .inr 21, .inr 22, .inr 23, .inr 24, .inr 25, .inr 26, .inl 0, .inl 0, .inl 0, .inr 27, .inr 28, .inr 29, .inl 0, .inl 0, .inl 0, .inr 30, .inr 31, .inr 32, .inr 33, .inr 34, .inr 35]), (0, []), (1, []), (2, []), (3, [.inl (-1)]), (4, []), (5, []), (6, []), (7, []), (8, []), (9, []), (10, []), (11, []), (12, []), (13, []), (14, []), (15, []), (20, []), (19, []), (16, []), (17, []), (18, []), (21, []), (22, []), (23, []), (24, []), (25, []), (27, []), (28, []), (26, []), (29, []), (30, []), (31, []), (32, []), (33, []), (34, [])]
set_option maxRecDepth 100000 in
theorem zTr_ok : zokT zkdm zTr = true := by decide +kernel
set_option maxRecDepth 100000 in
theorem zTr_ox : zTr.all (fun q => zokx zTr.length (zkdm.getD q.1 (0, 0, 0, [])) q.2) = true := by decide +kernel
def zTi0 : zTm := [(29, [.inr 1, .inr 3, .inr 4, .inr 21, .inr 28, .inl 0, .inl (-1)]), (3, [.inr 2, .inl 0]), (2, []), (24, []), (25, [.inr 5, .inr 13]), (15, [.inl 0, .inl 0, .inl 0, .inl 0, .inl 0, .inr 6, .inl 0, .inr 7, .inr 8, .inr 9, .inl 0, .inr 10, .inr 11, .inr 12, .inl 0]), (8, []), (9, []), (10, []), (11, []), (12, []), (13, []), (14, []), (15, [.inl 0, .inl 0, .inl 0, .inl 0, .inl 0, .inr 14, .inl 0, .inr 15, .inr 16, .inr 17, .inl 0, .inr 18, .inr 19, .inr 20, .inl 0]), (8, []), (9, []), (10, []), (11, []), (12, []), (13, []), (14, []), (26, [.inr 22, .inr 25]), (18, [.inl 0, .inr 23, .inr 24]), (16, []), (17, []), (18, [.inl 0, .inr 26, .inr 27]), (16, []), (17, []), (27, [.inr 29, .inr 34]), (23, [.inl 0, .inr 30, .inr 31, .inl 0, .inr 32, .inr 33]), (19, []), (20, []), (21, []), (22, []), (23, [.inl 0, .inr 35, .inr 36, .inl 0, .inr 37, .inr 38]), (19, []), (20, []), (21, []), (22, [])]
set_option maxRecDepth 100000 in
theorem zTi0_ok : zokT zkds zTi0 = true := by decide +kernel
set_option maxRecDepth 100000 in
theorem zTi0_ox : zTi0.all (fun q => zokx zTi0.length (zkds.getD q.1 (0, 0, 0, [])) q.2) = true := by decide +kernel
def zTi1 : zTm := [(30, [.inr 1, .inr 3, .inr 4, .inr 21, .inr 28, .inl 0, .inl (-1)]), (5, [.inr 2, .inl 0]), (4, []), (24, []), (25, [.inr 5, .inr 13]), (15, [.inl 0, .inl 0, .inl 0, .inl 0, .inl 0, .inr 6, .inl 0, .inr 7, .inr 8, .inr 9, .inl 0, .inr 10, .inr 11, .inr 12, .inl 0]), (8, []), (9, []), (10, []), (11, []), (12, []), (13, []), (14, []), (15, [.inl 0, .inl 0, .inl 0, .inl 0, .inl 0, .inr 14, .inl 0, .inr 15, .inr 16, .inr 17, .inl 0, .inr 18, .inr 19, .inr 20, .inl 0]), (8, []), (9, []), (10, []), (11, []), (12, []), (13, []), (14, []), (26, [.inr 22, .inr 25]), (18, [.inl 0, .inr 23, .inr 24]), (16, []), (17, []), (18, [.inl 0, .inr 26, .inr 27]), (16, []), (17, []), (27, [.inr 29, .inr 34]), (23, [.inl 0, .inr 30, .inr 31, .inl 0, .inr 32, .inr 33]), (19, []), (20, []), (21, []), (22, []), (23, [.inl 0, .inr 35, .inr 36, .inl 0, .inr 37, .inr 38]), (19, []), (20, []), (21, []), (22, [])]
set_option maxRecDepth 100000 in
theorem zTi1_ok : zokT zkds zTi1 = true := by decide +kernel
set_option maxRecDepth 100000 in
theorem zTi1_ox : zTi1.all (fun q => zokx zTi1.length (zkds.getD q.1 (0, 0, 0, [])) q.2) = true := by decide +kernel
def zTi2 : zTm := [(31, [.inr 1, .inr 3, .inr 4, .inr 21, .inr 28, .inl 0, .inl (-1)]), (7, [.inr 2, .inl 0]), (6, []), (24, []), (25, [.inr 5, .inr 13]), (15, [.inl 0, .inl 0, .inl 0, .inl 0, .inl 0, .inr 6, .inl 0, .inr 7, .inr 8, .inr 9, .inl 0, .inr 10, .inr 11, .inr 12, .inl 0]), (8, []), (9, []), (10, []), (11, []), (12, []), (13, []), (14, []), (15, [.inl 0, .inl 0, .inl 0, .inl 0, .inl 0, .inr 14, .inl 0, .inr 15, .inr 16, .inr 17, .inl 0, .inr 18, .inr 19, .inr 20, .inl 0]), (8, []), (9, []), (10, []), (11, []), (12, []), (13, []), (14, []), (26, [.inr 22, .inr 25]), (18, [.inl 0, .inr 23, .inr 24]), (16, []), (17, []), (18, [.inl 0, .inr 26, .inr 27]), (16, []), (17, []), (27, [.inr 29, .inr 34]), (23, [.inl 0, .inr 30, .inr 31, .inl 0, .inr 32, .inr 33]), (19, []), (20, []), (21, []), (22, []), (23, [.inl 0, .inr 35, .inr 36, .inl 0, .inr 37, .inr 38]), (19, []), (20, []), (21, []), (22, [])]
set_option maxRecDepth 100000 in
theorem zTi2_ok : zokT zkds zTi2 = true := by decide +kernel
set_option maxRecDepth 100000 in
theorem zTi2_ox : zTi2.all (fun q => zokx zTi2.length (zkds.getD q.1 (0, 0, 0, [])) q.2) = true := by decide +kernel
set_option maxHeartbeats 4000000 in
set_option maxRecDepth 100000 in
theorem zc_at {D : va_G} {cy : Nat → ClassId} {h0 : Nat} {ad : Nat → Nat} {H : Heap} (hP : va_P D vwCl [(h0, .inr (11, [.ref (ad 0), .ref (ad 1), .ref (ad 2), .ref (ad 3), .ref (ad 4), .ref (ad 5), .ref (ad 6)])), ((ad 0), .inr (9, [.ref (ad 7), .ref (ad 8), .ref (ad 9), .ref (ad 10), .ref (ad 11), .int 0, .int (-1)])), ((ad 7), .inr (8, [.ref (ad 12), .int 0])), ((ad 12), .inl (cy 1, 600, .inl (fun _ => 0))), ((ad 8), .inl (cy 0, 3, .inl (fun _ => 0))), ((ad 9), .inl (cy 3, 2, .inr (.inr (.inr (.inr (ar2 (ad 13) (ad 14))))))), ((ad 13), .inr (6, [.int 0, .int 0, .int 0, .int 0, .int 0, .ref (ad 15), .int 0, .ref (ad 16), .ref (ad 17), .ref (ad 18), .int 0, .ref (ad 19), .ref (ad 20), .ref (ad 21), .int 0])), ((ad 15), .inl (cy 0, 12, .inl (fun _ => 0))), ((ad 16), .inl (cy 0, 4, .inl (fun _ => 0))), ((ad 17), .inl (cy 0, 4, .inl (fun _ => 0))), ((ad 18), .inl (cy 0, 4, .inl (fun _ => 0))), ((ad 19), .inl (cy 0, 6, .inl (fun _ => 0))), ((ad 20), .inl (cy 0, 6, .inl (fun _ => 0))), ((ad 21), .inl (cy 0, 6, .inl (fun _ => 0))), ((ad 14), .inr (6, [.int 0, .int 0, .int 0, .int 0, .int 0, .ref (ad 22), .int 0, .ref (ad 23), .ref (ad 24), .ref (ad 25), .int 0, .ref (ad 26), .ref (ad 27), .ref (ad 28), .int 0])), ((ad 22), .inl (cy 0, 12, .inl (fun _ => 0))), ((ad 23), .inl (cy 0, 4, .inl (fun _ => 0))), ((ad 24), .inl (cy 0, 4, .inl (fun _ => 0))), ((ad 25), .inl (cy 0, 4, .inl (fun _ => 0))), ((ad 26), .inl (cy 0, 6, .inl (fun _ => 0))), ((ad 27), .inl (cy 0, 6, .inl (fun _ => 0))), ((ad 28), .inl (cy 0, 6, .inl (fun _ => 0))), ((ad 10), .inl (cy 4, 2, .inr (.inr (.inr (.inr (ar2 (ad 29) (ad 30))))))), ((ad 29), .inr (1, [.int 0, .ref (ad 31), .ref (ad 32)])), ((ad 31), .inl (cy 0, 30, .inl (fun _ => 0))), ((ad 32), .inl (cy 0, 90, .inl (fun _ => 0))), ((ad 30), .inr (1, [.int 0, .ref (ad 33), .ref (ad 34)])), ((ad 33), .inl (cy 0, 30, .inl (fun _ => 0))), ((ad 34), .inl (cy 0, 90, .inl (fun _ => 0))), ((ad 11), .inl (cy 5, 2, .inr (.inr (.inr (.inr (ar2 (ad 35) (ad 36))))))), ((ad 35), .inr (2, [.int 0, .ref (ad 37), .ref (ad 38), .int 0, .ref (ad 39), .ref (ad 40)])), ((ad 37), .inl (cy 0, 9, .inl (fun _ => 0))), ((ad 38), .inl (cy 0, 9, .inl (fun _ => 0))), ((ad 39), .inl (cy 0, 16, .inl (fun _ => 0))), ((ad 40), .inl (cy 0, 16, .inl (fun _ => 0))), ((ad 36), .inr (2, [.int 0, .ref (ad 41), .ref (ad 42), .int 0, .ref (ad 43), .ref (ad 44)])), ((ad 41), .inl (cy 0, 9, .inl (fun _ => 0))), ((ad 42), .inl (cy 0, 9, .inl (fun _ => 0))), ((ad 43), .inl (cy 0, 16, .inl (fun _ => 0))), ((ad 44), .inl (cy 0, 16, .inl (fun _ => 0))), ((ad 1), .inl (cy 6, 3, .inr (.inr (.inr (.inr (fun _ => none)))))), ((ad 2), .inr (4, [.ref (ad 45), .ref (ad 46), .ref (ad 47), .int 0, .int 0, .ref (ad 48), .ref (ad 49), .int 0, .int 0, .int 0])), ((ad 45), .inr (6, [.int 0, .int 0, .int 0, .int 0, .int 0, .ref (ad 50), .int 0, .ref (ad 51), .ref (ad 52), .ref (ad 53), .int 0, .ref (ad 54), .ref (ad 55), .ref (ad 56), .int 0])), ((ad 50), .inl (cy 0, 12, .inl (fun _ => 0))), ((ad 51), .inl (cy 0, 4, .inl (fun _ => 0))), ((ad 52), .inl (cy 0, 4, .inl (fun _ => 0))), ((ad 53), .inl (cy 0, 4, .inl (fun _ => 0))), ((ad 54), .inl (cy 0, 6, .inl (fun _ => 0))), ((ad 55), .inl (cy 0, 6, .inl (fun _ => 0))), ((ad 56), .inl (cy 0, 6, .inl (fun _ => 0))), ((ad 46), .inr (1, [.int 0, .ref (ad 57), .ref (ad 58)])), ((ad 57), .inl (cy 0, 30, .inl (fun _ => 0))), ((ad 58), .inl (cy 0, 90, .inl (fun _ => 0))), ((ad 47), .inr (2, [.int 0, .ref (ad 59), .ref (ad 60), .int 0, .ref (ad 61), .ref (ad 62)])), ((ad 59), .inl (cy 0, 9, .inl (fun _ => 0))), ((ad 60), .inl (cy 0, 9, .inl (fun _ => 0))), ((ad 61), .inl (cy 0, 16, .inl (fun _ => 0))), ((ad 62), .inl (cy 0, 16, .inl (fun _ => 0))), ((ad 48), .inl (cy 0, 5, .inl (fun _ => 0))), ((ad 49), .inl (cy 0, 5, .inl (fun _ => 0))), ((ad 3), .inr (5, [.null, .null, .ref (ad 63), .ref (ad 64), .ref (ad 65), .ref (ad 66), .int 0, .int 0, .int 0, .int 0, .int 0, .int 0, .int 0, .int 0, .int 0, .ref (ad 67)])), ((ad 63), .inr (7, [.ref (ad 68), .ref (ad 69), .ref (ad 70), .ref (ad 71), .ref (ad 72), .ref (ad 73), .int 0, .int 0])), ((ad 68), .inl (cy 0, 6, .inl (fun _ => 0))), ((ad 69), .inl (cy 0, 6, .inl (fun _ => 0))), ((ad 70), .inl (cy 0, 6, .inl (fun _ => 0))), ((ad 71), .inl (cy 0, 6, .inl (fun _ => 0))), ((ad 72), .inl (cy 0, 6, .inl (fun _ => 0))), ((ad 73), .inl (cy 0, 6, .inl (fun _ => 0))), ((ad 64), .inl (cy 0, 6, .inl (fun _ => 0))), ((ad 65), .inl (cy 0, 6, .inl (fun _ => 0))), ((ad 66), .inl (cy 0, 6, .inl (fun _ => 0))), ((ad 67), .inl (cy 0, 3, .inl (fun _ => 0))), ((ad 4), .inr (10, [.int 0, .int 0, .int 0, .ref (ad 74)])), ((ad 74), .inr (6, [.int 0, .int 0, .int 0, .int 0, .int 0, .ref (ad 75), .int 0, .ref (ad 76), .ref (ad 77), .ref (ad 78), .int 0, .ref (ad 79), .ref (ad 80), .ref (ad 81), .int 0])), ((ad 75), .inl (cy 0, 12, .inl (fun _ => 0))), ((ad 76), .inl (cy 0, 4, .inl (fun _ => 0))), ((ad 77), .inl (cy 0, 4, .inl (fun _ => 0))), ((ad 78), .inl (cy 0, 4, .inl (fun _ => 0))), ((ad 79), .inl (cy 0, 6, .inl (fun _ => 0))), ((ad 80), .inl (cy 0, 6, .inl (fun _ => 0))), ((ad 81), .inl (cy 0, 6, .inl (fun _ => 0))), ((ad 5), .inr (0, [.int 0, .int 0, .int 0, .ref (ad 82), .ref (ad 83), .ref (ad 84), .long 0])), ((ad 82), .inl (cy 0, 128, .inl (fun _ => 0))), ((ad 83), .inl (cy 0, 128, .inl (fun _ => 0))), ((ad 84), .inl (cy 0, 16, .inl (fun _ => 0))), ((ad 6), .inr (3, [.ref (ad 85), .ref (ad 86), .ref (ad 87), .ref (ad 88), .ref (ad 89), .ref (ad 90)])), ((ad 85), .inl (cy 0, 9, .inl (fun _ => 0))), ((ad 86), .inl (cy 0, 9, .inl (fun _ => 0))), ((ad 87), .inl (cy 0, 9, .inl (fun _ => 0))), ((ad 88), .inl (cy 0, 9, .inl (fun _ => 0))), ((ad 89), .inl (cy 0, 512, .inl (fun _ => 0))), ((ad 90), .inl (cy 0, 81, .inl (fun _ => 0)))] H) (i : Nat) (hi : i < zTc.length) : va_at D vwCl ((fun i => [h0, ad 0, ad 7, ad 12, ad 8, ad 9, ad 13, ad 15, ad 16, ad 17, ad 18, ad 19, ad 20, ad 21, ad 14, ad 22, ad 23, ad 24, ad 25, ad 26, ad 27, ad 28, ad 10, ad 29, ad 31, ad 32, ad 30, ad 33, ad 34, ad 11, ad 35, ad 37, ad 38, ad 39, ad 40, ad 36, ad 41, ad 42, ad 43, ad 44, ad 1, ad 2, ad 45, ad 50, ad 51, ad 52, ad 53, ad 54, ad 55, ad 56, ad 46, ad 57, ad 58, ad 47, ad 59, ad 60, ad 61, ad 62, ad 48, ad 49, ad 3, ad 63, ad 68, ad 69, ad 70, ad 71, ad 72, ad 73, ad 64, ad 65, ad 66, ad 67, ad 4, ad 74, ad 75, ad 76, ad 77, ad 78, ad 79, ad 80, ad 81, ad 5, ad 82, ad 83, ad 84, ad 6, ad 85, ad 86, ad 87, ad 88, ad 89, ad 90].getD i 0) i, zEv (fun i => [h0, ad 0, ad 7, ad 12, ad 8, ad 9, ad 13, ad 15, ad 16, ad 17, ad 18, ad 19, ad 20, ad 21, ad 14, ad 22, ad 23, ad 24, ad 25, ad 26, ad 27, ad 28, ad 10, ad 29, ad 31, ad 32, ad 30, ad 33, ad 34, ad 11, ad 35, ad 37, ad 38, ad 39, ad 40, ad 36, ad 41, ad 42, ad 43, ad 44, ad 1, ad 2, ad 45, ad 50, ad 51, ad 52, ad 53, ad 54, ad 55, ad 56, ad 46, ad 57, ad 58, ad 47, ad 59, ad 60, ad 61, ad 62, ad 48, ad 49, ad 3, ad 63, ad 68, ad 69, ad 70, ad 71, ad 72, ad 73, ad 64, ad 65, ad 66, ad 67, ad 4, ad 74, ad 75, ad 76, ad 77, ad 78, ad 79, ad 80, ad 81, ad 5, ad 82, ad 83, ad 84, ad 6, ad 85, ad 86, ad 87, ad 88, ad 89, ad 90].getD i 0) cy (zkT zkds zTc i) (zTc.getD i (0, [])).2) H := by
  match i, hi with
  | 0, _ => exact hP 0 _ rfl
  | 1, _ => exact hP 1 _ rfl
  | 2, _ => exact hP 2 _ rfl
  | 3, _ => exact hP 3 _ rfl
  | 4, _ => exact hP 4 _ rfl
  | 5, _ =>
    show va_at D vwCl ((fun i => [h0, ad 0, ad 7, ad 12, ad 8, ad 9, ad 13, ad 15, ad 16, ad 17, ad 18, ad 19, ad 20, ad 21, ad 14, ad 22, ad 23, ad 24, ad 25, ad 26, ad 27, ad 28, ad 10, ad 29, ad 31, ad 32, ad 30, ad 33, ad 34, ad 11, ad 35, ad 37, ad 38, ad 39, ad 40, ad 36, ad 41, ad 42, ad 43, ad 44, ad 1, ad 2, ad 45, ad 50, ad 51, ad 52, ad 53, ad 54, ad 55, ad 56, ad 46, ad 57, ad 58, ad 47, ad 59, ad 60, ad 61, ad 62, ad 48, ad 49, ad 3, ad 63, ad 68, ad 69, ad 70, ad 71, ad 72, ad 73, ad 64, ad 65, ad 66, ad 67, ad 4, ad 74, ad 75, ad 76, ad 77, ad 78, ad 79, ad 80, ad 81, ad 5, ad 82, ad 83, ad 84, ad 6, ad 85, ad 86, ad 87, ad 88, ad 89, ad 90].getD i 0) 5, .inl (cy 3, 2, .inr (.inr (.inr (.inr (fun k => zrv (fun i => [h0, ad 0, ad 7, ad 12, ad 8, ad 9, ad 13, ad 15, ad 16, ad 17, ad 18, ad 19, ad 20, ad 21, ad 14, ad 22, ad 23, ad 24, ad 25, ad 26, ad 27, ad 28, ad 10, ad 29, ad 31, ad 32, ad 30, ad 33, ad 34, ad 11, ad 35, ad 37, ad 38, ad 39, ad 40, ad 36, ad 41, ad 42, ad 43, ad 44, ad 1, ad 2, ad 45, ad 50, ad 51, ad 52, ad 53, ad 54, ad 55, ad 56, ad 46, ad 57, ad 58, ad 47, ad 59, ad 60, ad 61, ad 62, ad 48, ad 49, ad 3, ad 63, ad 68, ad 69, ad 70, ad 71, ad 72, ad 73, ad 64, ad 65, ad 66, ad 67, ad 4, ad 74, ad 75, ad 76, ad 77, ad 78, ad 79, ad 80, ad 81, ad 5, ad 82, ad 83, ad 84, ad 6, ad 85, ad 86, ad 87, ad 88, ad 89, ad 90].getD i 0) ([.inr 6, .inr 14].getD k (.inl (-1))))))))) H
    rw [ar2_v]
    exact hP 5 _ rfl
  | 6, _ => exact hP 6 _ rfl
  | 7, _ => exact hP 7 _ rfl
  | 8, _ => exact hP 8 _ rfl
  | 9, _ => exact hP 9 _ rfl
  | 10, _ => exact hP 10 _ rfl
  | 11, _ => exact hP 11 _ rfl
  | 12, _ => exact hP 12 _ rfl
  | 13, _ => exact hP 13 _ rfl
  | 14, _ => exact hP 14 _ rfl
  | 15, _ => exact hP 15 _ rfl
  | 16, _ => exact hP 16 _ rfl
  | 17, _ => exact hP 17 _ rfl
  | 18, _ => exact hP 18 _ rfl
  | 19, _ => exact hP 19 _ rfl
  | 20, _ => exact hP 20 _ rfl
  | 21, _ => exact hP 21 _ rfl
  | 22, _ =>
    show va_at D vwCl ((fun i => [h0, ad 0, ad 7, ad 12, ad 8, ad 9, ad 13, ad 15, ad 16, ad 17, ad 18, ad 19, ad 20, ad 21, ad 14, ad 22, ad 23, ad 24, ad 25, ad 26, ad 27, ad 28, ad 10, ad 29, ad 31, ad 32, ad 30, ad 33, ad 34, ad 11, ad 35, ad 37, ad 38, ad 39, ad 40, ad 36, ad 41, ad 42, ad 43, ad 44, ad 1, ad 2, ad 45, ad 50, ad 51, ad 52, ad 53, ad 54, ad 55, ad 56, ad 46, ad 57, ad 58, ad 47, ad 59, ad 60, ad 61, ad 62, ad 48, ad 49, ad 3, ad 63, ad 68, ad 69, ad 70, ad 71, ad 72, ad 73, ad 64, ad 65, ad 66, ad 67, ad 4, ad 74, ad 75, ad 76, ad 77, ad 78, ad 79, ad 80, ad 81, ad 5, ad 82, ad 83, ad 84, ad 6, ad 85, ad 86, ad 87, ad 88, ad 89, ad 90].getD i 0) 22, .inl (cy 4, 2, .inr (.inr (.inr (.inr (fun k => zrv (fun i => [h0, ad 0, ad 7, ad 12, ad 8, ad 9, ad 13, ad 15, ad 16, ad 17, ad 18, ad 19, ad 20, ad 21, ad 14, ad 22, ad 23, ad 24, ad 25, ad 26, ad 27, ad 28, ad 10, ad 29, ad 31, ad 32, ad 30, ad 33, ad 34, ad 11, ad 35, ad 37, ad 38, ad 39, ad 40, ad 36, ad 41, ad 42, ad 43, ad 44, ad 1, ad 2, ad 45, ad 50, ad 51, ad 52, ad 53, ad 54, ad 55, ad 56, ad 46, ad 57, ad 58, ad 47, ad 59, ad 60, ad 61, ad 62, ad 48, ad 49, ad 3, ad 63, ad 68, ad 69, ad 70, ad 71, ad 72, ad 73, ad 64, ad 65, ad 66, ad 67, ad 4, ad 74, ad 75, ad 76, ad 77, ad 78, ad 79, ad 80, ad 81, ad 5, ad 82, ad 83, ad 84, ad 6, ad 85, ad 86, ad 87, ad 88, ad 89, ad 90].getD i 0) ([.inr 23, .inr 26].getD k (.inl (-1))))))))) H
    rw [ar2_v]
    exact hP 22 _ rfl
  | 23, _ => exact hP 23 _ rfl
  | 24, _ => exact hP 24 _ rfl
  | 25, _ => exact hP 25 _ rfl
  | 26, _ => exact hP 26 _ rfl
  | 27, _ => exact hP 27 _ rfl
  | 28, _ => exact hP 28 _ rfl
  | 29, _ =>
    show va_at D vwCl ((fun i => [h0, ad 0, ad 7, ad 12, ad 8, ad 9, ad 13, ad 15, ad 16, ad 17, ad 18, ad 19, ad 20, ad 21, ad 14, ad 22, ad 23, ad 24, ad 25, ad 26, ad 27, ad 28, ad 10, ad 29, ad 31, ad 32, ad 30, ad 33, ad 34, ad 11, ad 35, ad 37, ad 38, ad 39, ad 40, ad 36, ad 41, ad 42, ad 43, ad 44, ad 1, ad 2, ad 45, ad 50, ad 51, ad 52, ad 53, ad 54, ad 55, ad 56, ad 46, ad 57, ad 58, ad 47, ad 59, ad 60, ad 61, ad 62, ad 48, ad 49, ad 3, ad 63, ad 68, ad 69, ad 70, ad 71, ad 72, ad 73, ad 64, ad 65, ad 66, ad 67, ad 4, ad 74, ad 75, ad 76, ad 77, ad 78, ad 79, ad 80, ad 81, ad 5, ad 82, ad 83, ad 84, ad 6, ad 85, ad 86, ad 87, ad 88, ad 89, ad 90].getD i 0) 29, .inl (cy 5, 2, .inr (.inr (.inr (.inr (fun k => zrv (fun i => [h0, ad 0, ad 7, ad 12, ad 8, ad 9, ad 13, ad 15, ad 16, ad 17, ad 18, ad 19, ad 20, ad 21, ad 14, ad 22, ad 23, ad 24, ad 25, ad 26, ad 27, ad 28, ad 10, ad 29, ad 31, ad 32, ad 30, ad 33, ad 34, ad 11, ad 35, ad 37, ad 38, ad 39, ad 40, ad 36, ad 41, ad 42, ad 43, ad 44, ad 1, ad 2, ad 45, ad 50, ad 51, ad 52, ad 53, ad 54, ad 55, ad 56, ad 46, ad 57, ad 58, ad 47, ad 59, ad 60, ad 61, ad 62, ad 48, ad 49, ad 3, ad 63, ad 68, ad 69, ad 70, ad 71, ad 72, ad 73, ad 64, ad 65, ad 66, ad 67, ad 4, ad 74, ad 75, ad 76, ad 77, ad 78, ad 79, ad 80, ad 81, ad 5, ad 82, ad 83, ad 84, ad 6, ad 85, ad 86, ad 87, ad 88, ad 89, ad 90].getD i 0) ([.inr 30, .inr 35].getD k (.inl (-1))))))))) H
    rw [ar2_v]
    exact hP 29 _ rfl
  | 30, _ => exact hP 30 _ rfl
  | 31, _ => exact hP 31 _ rfl
  | 32, _ => exact hP 32 _ rfl
  | 33, _ => exact hP 33 _ rfl
  | 34, _ => exact hP 34 _ rfl
  | 35, _ => exact hP 35 _ rfl
  | 36, _ => exact hP 36 _ rfl
  | 37, _ => exact hP 37 _ rfl
  | 38, _ => exact hP 38 _ rfl
  | 39, _ => exact hP 39 _ rfl
  | 40, _ => exact hP 40 _ rfl
  | 41, _ => exact hP 41 _ rfl
  | 42, _ => exact hP 42 _ rfl
  | 43, _ => exact hP 43 _ rfl
  | 44, _ => exact hP 44 _ rfl
  | 45, _ => exact hP 45 _ rfl
  | 46, _ => exact hP 46 _ rfl
  | 47, _ => exact hP 47 _ rfl
  | 48, _ => exact hP 48 _ rfl
  | 49, _ => exact hP 49 _ rfl
  | 50, _ => exact hP 50 _ rfl
  | 51, _ => exact hP 51 _ rfl
  | 52, _ => exact hP 52 _ rfl
  | 53, _ => exact hP 53 _ rfl
  | 54, _ => exact hP 54 _ rfl
  | 55, _ => exact hP 55 _ rfl
  | 56, _ => exact hP 56 _ rfl
  | 57, _ => exact hP 57 _ rfl
  | 58, _ => exact hP 58 _ rfl
  | 59, _ => exact hP 59 _ rfl
  | 60, _ => exact hP 60 _ rfl
  | 61, _ => exact hP 61 _ rfl
  | 62, _ => exact hP 62 _ rfl
  | 63, _ => exact hP 63 _ rfl
  | 64, _ => exact hP 64 _ rfl
  | 65, _ => exact hP 65 _ rfl
  | 66, _ => exact hP 66 _ rfl
  | 67, _ => exact hP 67 _ rfl
  | 68, _ => exact hP 68 _ rfl
  | 69, _ => exact hP 69 _ rfl
  | 70, _ => exact hP 70 _ rfl
  | 71, _ => exact hP 71 _ rfl
  | 72, _ => exact hP 72 _ rfl
  | 73, _ => exact hP 73 _ rfl
  | 74, _ => exact hP 74 _ rfl
  | 75, _ => exact hP 75 _ rfl
  | 76, _ => exact hP 76 _ rfl
  | 77, _ => exact hP 77 _ rfl
  | 78, _ => exact hP 78 _ rfl
  | 79, _ => exact hP 79 _ rfl
  | 80, _ => exact hP 80 _ rfl
  | 81, _ => exact hP 81 _ rfl
  | 82, _ => exact hP 82 _ rfl
  | 83, _ => exact hP 83 _ rfl
  | 84, _ => exact hP 84 _ rfl
  | 85, _ => exact hP 85 _ rfl
  | 86, _ => exact hP 86 _ rfl
  | 87, _ => exact hP 87 _ rfl
  | 88, _ => exact hP 88 _ rfl
  | 89, _ => exact hP 89 _ rfl
  | 90, _ => exact hP 90 _ rfl
  | 91, _ => exact hP 91 _ rfl
  | i + 92, hi => exact absurd hi (by show ¬ (i + 92 < 92); omega)
set_option maxHeartbeats 4000000 in
set_option maxRecDepth 100000 in
theorem zr_at {D : va_G} {cy : Nat → ClassId} {h0 q_1 q_2 q_3 q_4 q_5 q_6 q_7 q_8 q_9 q_10 q_11 q_12 q_13 q_14 q_15 q_16 q_17 q_18 q_19 q_20 q_21 q_22 q_23 q_24 q_25 q_26 q_27 q_28 q_29 q_30 q_31 q_32 q_33 q_34 q_35 : Nat} {H : Heap} (hP : va_P D vwCl [(h0, .inr (12, [.int 0, .ref q_1, .ref q_2, .ref q_3, .ref q_4, .ref q_5, .ref q_6, .ref q_7, .ref q_8, .int 0, .int 0, .int 0, .int 0, .int 0, .long 0, .int 0, .int 0, .int 0, .ref q_9, .ref q_10, .int 0, .int 0, .int 0, .int 0, .int 0, .int 0, .int 0, .int 0, .int 0, .int 0, .ref q_11, .ref q_12, .ref q_13, .int 0, .int 0, .int 0, .ref q_14, .ref q_15, .ref q_16, .ref q_17, .ref q_18, .ref q_19, .ref q_20, .ref q_21, .ref q_22, .ref q_23, .ref q_24, .ref q_25, .ref q_26, .int 0, .int 0, .int 0, .ref q_27, .ref q_28, .ref q_29, .int 0, .int 0, .int 0, .ref q_30, .ref q_31, .ref q_32, .ref q_33, .ref q_34, .ref q_35])), (q_1, .inl (cy 1, 2400, .inl (fun _ => 0))), (q_2, .inl (cy 0, 4, .inl (fun _ => 0))), (q_3, .inl (cy 0, 4, .inl (fun _ => 0))), (q_4, .inl (cy 0, 4, .inl (upd (fun _ => 0) 0 (-1)))), (q_5, .inl (cy 0, 12, .inl (fun _ => 0))), (q_6, .inl (cy 0, 400, .inl (fun _ => 0))), (q_7, .inl (cy 0, 968, .inl (fun _ => 0))), (q_8, .inl (cy 0, 416, .inl (fun _ => 0))), (q_9, .inl (cy 0, 121, .inl (fun _ => 0))), (q_10, .inl (cy 0, 5, .inl (fun _ => 0))), (q_11, .inl (cy 0, 6, .inl (fun _ => 0))), (q_12, .inl (cy 0, 6, .inl (fun _ => 0))), (q_13, .inl (cy 0, 6, .inl (fun _ => 0))), (q_14, .inl (cy 0, 6, .inl (fun _ => 0))), (q_15, .inl (cy 0, 6, .inl (fun _ => 0))), (q_16, .inl (cy 0, 6, .inl (fun _ => 0))), (q_17, .inl (cy 0, 6, .inl (fun _ => 0))), (q_18, .inl (cy 0, 6, .inl (fun _ => 0))), (q_19, .inl (cy 0, 6, .inl (fun _ => 0))), (q_20, .inl (cy 0, 6, .inl (fun _ => 0))), (q_21, .inl (cy 0, 6, .inl (fun _ => 0))), (q_22, .inl (cy 0, 30, .inl (fun _ => 0))), (q_23, .inl (cy 0, 30, .inl (fun _ => 0))), (q_24, .inl (cy 0, 30, .inl (fun _ => 0))), (q_25, .inl (cy 0, 30, .inl (fun _ => 0))), (q_26, .inl (cy 0, 30, .inl (fun _ => 0))), (q_27, .inl (cy 2, 1984, .inl (fun _ => 0))), (q_28, .inl (cy 2, 1984, .inl (fun _ => 0))), (q_29, .inl (cy 0, 30, .inl (fun _ => 0))), (q_30, .inl (cy 0, 9, .inl (fun _ => 0))), (q_31, .inl (cy 0, 512, .inl (fun _ => 0))), (q_32, .inl (cy 0, 9, .inl (fun _ => 0))), (q_33, .inl (cy 0, 9, .inl (fun _ => 0))), (q_34, .inl (cy 0, 9, .inl (fun _ => 0))), (q_35, .inl (cy 2, 3, .inl (fun _ => 0)))] H) (i : Nat) (hi : i < zTr.length) : va_at D vwCl ((fun i => [h0, q_1, q_2, q_3, q_4, q_5, q_6, q_7, q_8, q_9, q_10, q_11, q_12, q_13, q_14, q_15, q_16, q_17, q_18, q_19, q_20, q_21, q_22, q_23, q_24, q_25, q_26, q_27, q_28, q_29, q_30, q_31, q_32, q_33, q_34, q_35].getD i 0) i, zEv (fun i => [h0, q_1, q_2, q_3, q_4, q_5, q_6, q_7, q_8, q_9, q_10, q_11, q_12, q_13, q_14, q_15, q_16, q_17, q_18, q_19, q_20, q_21, q_22, q_23, q_24, q_25, q_26, q_27, q_28, q_29, q_30, q_31, q_32, q_33, q_34, q_35].getD i 0) cy (zkT zkdm zTr i) (zTr.getD i (0, [])).2) H := by
  match i, hi with
  | 0, _ => exact hP 0 _ rfl
  | 1, _ => exact hP 1 _ rfl
  | 2, _ => exact hP 2 _ rfl
  | 3, _ => exact hP 3 _ rfl
  | 4, _ =>
    show va_at D vwCl ((fun i => [h0, q_1, q_2, q_3, q_4, q_5, q_6, q_7, q_8, q_9, q_10, q_11, q_12, q_13, q_14, q_15, q_16, q_17, q_18, q_19, q_20, q_21, q_22, q_23, q_24, q_25, q_26, q_27, q_28, q_29, q_30, q_31, q_32, q_33, q_34, q_35].getD i 0) 4, .inl (cy 0, 4, .inl (fun j => Int32.ofInt (znv ([.inl (-1)].getD j (.inl 0)))))) H
    rw [upd_v]
    exact hP 4 _ rfl
  | 5, _ => exact hP 5 _ rfl
  | 6, _ => exact hP 6 _ rfl
  | 7, _ => exact hP 7 _ rfl
  | 8, _ => exact hP 8 _ rfl
  | 9, _ => exact hP 9 _ rfl
  | 10, _ => exact hP 10 _ rfl
  | 11, _ => exact hP 11 _ rfl
  | 12, _ => exact hP 12 _ rfl
  | 13, _ => exact hP 13 _ rfl
  | 14, _ => exact hP 14 _ rfl
  | 15, _ => exact hP 15 _ rfl
  | 16, _ => exact hP 16 _ rfl
  | 17, _ => exact hP 17 _ rfl
  | 18, _ => exact hP 18 _ rfl
  | 19, _ => exact hP 19 _ rfl
  | 20, _ => exact hP 20 _ rfl
  | 21, _ => exact hP 21 _ rfl
  | 22, _ => exact hP 22 _ rfl
  | 23, _ => exact hP 23 _ rfl
  | 24, _ => exact hP 24 _ rfl
  | 25, _ => exact hP 25 _ rfl
  | 26, _ => exact hP 26 _ rfl
  | 27, _ => exact hP 27 _ rfl
  | 28, _ => exact hP 28 _ rfl
  | 29, _ => exact hP 29 _ rfl
  | 30, _ => exact hP 30 _ rfl
  | 31, _ => exact hP 31 _ rfl
  | 32, _ => exact hP 32 _ rfl
  | 33, _ => exact hP 33 _ rfl
  | 34, _ => exact hP 34 _ rfl
  | 35, _ => exact hP 35 _ rfl
  | i + 36, hi => exact absurd hi (by show ¬ (i + 36 < 36); omega)
set_option maxHeartbeats 4000000 in
set_option maxRecDepth 100000 in
theorem zi0_at {D : va_G} {cy : Nat → ClassId} {h0 q_1 q_6 q_7 q_8 q_9 q_14 q_15 q_16 q_17 q_18 q_19 q_20 q_21 q_26 q_27 q_28 q_29 q_30 q_31 q_32 q_33 q_34 q_39 q_40 q_41 q_46 q_47 q_48 q_49 q_54 q_55 q_56 q_57 q_58 q_63 q_64 q_65 q_66 : Nat} {H : Heap} (hP : va_P D vwCl [(h0, .inr (9, [.ref q_1, .ref q_7, .ref q_8, .ref q_33, .ref q_48, .int 0, .int (-1)])), (q_1, .inr (8, [.ref q_6, .int 0])), (q_6, .inl (cy 1, 600, .inl (fun _ => 0))), (q_7, .inl (cy 0, 3, .inl (fun _ => 0))), (q_8, .inl (cy 3, 2, .inr (.inr (.inr (.inr (ar2 q_9 q_21)))))), (q_9, .inr (6, [.int 0, .int 0, .int 0, .int 0, .int 0, .ref q_14, .int 0, .ref q_15, .ref q_16, .ref q_17, .int 0, .ref q_18, .ref q_19, .ref q_20, .int 0])), (q_14, .inl (cy 0, 12, .inl (fun _ => 0))), (q_15, .inl (cy 0, 4, .inl (fun _ => 0))), (q_16, .inl (cy 0, 4, .inl (fun _ => 0))), (q_17, .inl (cy 0, 4, .inl (fun _ => 0))), (q_18, .inl (cy 0, 6, .inl (fun _ => 0))), (q_19, .inl (cy 0, 6, .inl (fun _ => 0))), (q_20, .inl (cy 0, 6, .inl (fun _ => 0))), (q_21, .inr (6, [.int 0, .int 0, .int 0, .int 0, .int 0, .ref q_26, .int 0, .ref q_27, .ref q_28, .ref q_29, .int 0, .ref q_30, .ref q_31, .ref q_32, .int 0])), (q_26, .inl (cy 0, 12, .inl (fun _ => 0))), (q_27, .inl (cy 0, 4, .inl (fun _ => 0))), (q_28, .inl (cy 0, 4, .inl (fun _ => 0))), (q_29, .inl (cy 0, 4, .inl (fun _ => 0))), (q_30, .inl (cy 0, 6, .inl (fun _ => 0))), (q_31, .inl (cy 0, 6, .inl (fun _ => 0))), (q_32, .inl (cy 0, 6, .inl (fun _ => 0))), (q_33, .inl (cy 4, 2, .inr (.inr (.inr (.inr (ar2 q_34 q_41)))))), (q_34, .inr (1, [.int 0, .ref q_39, .ref q_40])), (q_39, .inl (cy 0, 30, .inl (fun _ => 0))), (q_40, .inl (cy 0, 90, .inl (fun _ => 0))), (q_41, .inr (1, [.int 0, .ref q_46, .ref q_47])), (q_46, .inl (cy 0, 30, .inl (fun _ => 0))), (q_47, .inl (cy 0, 90, .inl (fun _ => 0))), (q_48, .inl (cy 5, 2, .inr (.inr (.inr (.inr (ar2 q_49 q_58)))))), (q_49, .inr (2, [.int 0, .ref q_54, .ref q_55, .int 0, .ref q_56, .ref q_57])), (q_54, .inl (cy 0, 9, .inl (fun _ => 0))), (q_55, .inl (cy 0, 9, .inl (fun _ => 0))), (q_56, .inl (cy 0, 16, .inl (fun _ => 0))), (q_57, .inl (cy 0, 16, .inl (fun _ => 0))), (q_58, .inr (2, [.int 0, .ref q_63, .ref q_64, .int 0, .ref q_65, .ref q_66])), (q_63, .inl (cy 0, 9, .inl (fun _ => 0))), (q_64, .inl (cy 0, 9, .inl (fun _ => 0))), (q_65, .inl (cy 0, 16, .inl (fun _ => 0))), (q_66, .inl (cy 0, 16, .inl (fun _ => 0)))] H) (i : Nat) (hi : i < zTi0.length) : va_at D vwCl ((fun i => [h0, q_1, q_6, q_7, q_8, q_9, q_14, q_15, q_16, q_17, q_18, q_19, q_20, q_21, q_26, q_27, q_28, q_29, q_30, q_31, q_32, q_33, q_34, q_39, q_40, q_41, q_46, q_47, q_48, q_49, q_54, q_55, q_56, q_57, q_58, q_63, q_64, q_65, q_66].getD i 0) i, zEv (fun i => [h0, q_1, q_6, q_7, q_8, q_9, q_14, q_15, q_16, q_17, q_18, q_19, q_20, q_21, q_26, q_27, q_28, q_29, q_30, q_31, q_32, q_33, q_34, q_39, q_40, q_41, q_46, q_47, q_48, q_49, q_54, q_55, q_56, q_57, q_58, q_63, q_64, q_65, q_66].getD i 0) cy (zkT zkds zTi0 i) (zTi0.getD i (0, [])).2) H := by
  match i, hi with
  | 0, _ => exact hP 0 _ rfl
  | 1, _ => exact hP 1 _ rfl
  | 2, _ => exact hP 2 _ rfl
  | 3, _ => exact hP 3 _ rfl
  | 4, _ =>
    show va_at D vwCl ((fun i => [h0, q_1, q_6, q_7, q_8, q_9, q_14, q_15, q_16, q_17, q_18, q_19, q_20, q_21, q_26, q_27, q_28, q_29, q_30, q_31, q_32, q_33, q_34, q_39, q_40, q_41, q_46, q_47, q_48, q_49, q_54, q_55, q_56, q_57, q_58, q_63, q_64, q_65, q_66].getD i 0) 4, .inl (cy 3, 2, .inr (.inr (.inr (.inr (fun k => zrv (fun i => [h0, q_1, q_6, q_7, q_8, q_9, q_14, q_15, q_16, q_17, q_18, q_19, q_20, q_21, q_26, q_27, q_28, q_29, q_30, q_31, q_32, q_33, q_34, q_39, q_40, q_41, q_46, q_47, q_48, q_49, q_54, q_55, q_56, q_57, q_58, q_63, q_64, q_65, q_66].getD i 0) ([.inr 5, .inr 13].getD k (.inl (-1))))))))) H
    rw [ar2_v]
    exact hP 4 _ rfl
  | 5, _ => exact hP 5 _ rfl
  | 6, _ => exact hP 6 _ rfl
  | 7, _ => exact hP 7 _ rfl
  | 8, _ => exact hP 8 _ rfl
  | 9, _ => exact hP 9 _ rfl
  | 10, _ => exact hP 10 _ rfl
  | 11, _ => exact hP 11 _ rfl
  | 12, _ => exact hP 12 _ rfl
  | 13, _ => exact hP 13 _ rfl
  | 14, _ => exact hP 14 _ rfl
  | 15, _ => exact hP 15 _ rfl
  | 16, _ => exact hP 16 _ rfl
  | 17, _ => exact hP 17 _ rfl
  | 18, _ => exact hP 18 _ rfl
  | 19, _ => exact hP 19 _ rfl
  | 20, _ => exact hP 20 _ rfl
  | 21, _ =>
    show va_at D vwCl ((fun i => [h0, q_1, q_6, q_7, q_8, q_9, q_14, q_15, q_16, q_17, q_18, q_19, q_20, q_21, q_26, q_27, q_28, q_29, q_30, q_31, q_32, q_33, q_34, q_39, q_40, q_41, q_46, q_47, q_48, q_49, q_54, q_55, q_56, q_57, q_58, q_63, q_64, q_65, q_66].getD i 0) 21, .inl (cy 4, 2, .inr (.inr (.inr (.inr (fun k => zrv (fun i => [h0, q_1, q_6, q_7, q_8, q_9, q_14, q_15, q_16, q_17, q_18, q_19, q_20, q_21, q_26, q_27, q_28, q_29, q_30, q_31, q_32, q_33, q_34, q_39, q_40, q_41, q_46, q_47, q_48, q_49, q_54, q_55, q_56, q_57, q_58, q_63, q_64, q_65, q_66].getD i 0) ([.inr 22, .inr 25].getD k (.inl (-1))))))))) H
    rw [ar2_v]
    exact hP 21 _ rfl
  | 22, _ => exact hP 22 _ rfl
  | 23, _ => exact hP 23 _ rfl
  | 24, _ => exact hP 24 _ rfl
  | 25, _ => exact hP 25 _ rfl
  | 26, _ => exact hP 26 _ rfl
  | 27, _ => exact hP 27 _ rfl
  | 28, _ =>
    show va_at D vwCl ((fun i => [h0, q_1, q_6, q_7, q_8, q_9, q_14, q_15, q_16, q_17, q_18, q_19, q_20, q_21, q_26, q_27, q_28, q_29, q_30, q_31, q_32, q_33, q_34, q_39, q_40, q_41, q_46, q_47, q_48, q_49, q_54, q_55, q_56, q_57, q_58, q_63, q_64, q_65, q_66].getD i 0) 28, .inl (cy 5, 2, .inr (.inr (.inr (.inr (fun k => zrv (fun i => [h0, q_1, q_6, q_7, q_8, q_9, q_14, q_15, q_16, q_17, q_18, q_19, q_20, q_21, q_26, q_27, q_28, q_29, q_30, q_31, q_32, q_33, q_34, q_39, q_40, q_41, q_46, q_47, q_48, q_49, q_54, q_55, q_56, q_57, q_58, q_63, q_64, q_65, q_66].getD i 0) ([.inr 29, .inr 34].getD k (.inl (-1))))))))) H
    rw [ar2_v]
    exact hP 28 _ rfl
  | 29, _ => exact hP 29 _ rfl
  | 30, _ => exact hP 30 _ rfl
  | 31, _ => exact hP 31 _ rfl
  | 32, _ => exact hP 32 _ rfl
  | 33, _ => exact hP 33 _ rfl
  | 34, _ => exact hP 34 _ rfl
  | 35, _ => exact hP 35 _ rfl
  | 36, _ => exact hP 36 _ rfl
  | 37, _ => exact hP 37 _ rfl
  | 38, _ => exact hP 38 _ rfl
  | i + 39, hi => exact absurd hi (by show ¬ (i + 39 < 39); omega)
set_option maxHeartbeats 4000000 in
set_option maxRecDepth 100000 in
theorem zi1_at {D : va_G} {cy : Nat → ClassId} {h0 q_1 q_6 q_7 q_8 q_9 q_14 q_15 q_16 q_17 q_18 q_19 q_20 q_21 q_26 q_27 q_28 q_29 q_30 q_31 q_32 q_33 q_34 q_39 q_40 q_41 q_46 q_47 q_48 q_49 q_54 q_55 q_56 q_57 q_58 q_63 q_64 q_65 q_66 : Nat} {H : Heap} (hP : va_P D vwCl [(h0, .inr (9, [.ref q_1, .ref q_7, .ref q_8, .ref q_33, .ref q_48, .int 0, .int (-1)])), (q_1, .inr (8, [.ref q_6, .int 0])), (q_6, .inl (cy 1, 600, .inl (fun _ => 0))), (q_7, .inl (cy 0, 3, .inl (fun _ => 0))), (q_8, .inl (cy 3, 2, .inr (.inr (.inr (.inr (ar2 q_9 q_21)))))), (q_9, .inr (6, [.int 0, .int 0, .int 0, .int 0, .int 0, .ref q_14, .int 0, .ref q_15, .ref q_16, .ref q_17, .int 0, .ref q_18, .ref q_19, .ref q_20, .int 0])), (q_14, .inl (cy 0, 12, .inl (fun _ => 0))), (q_15, .inl (cy 0, 4, .inl (fun _ => 0))), (q_16, .inl (cy 0, 4, .inl (fun _ => 0))), (q_17, .inl (cy 0, 4, .inl (fun _ => 0))), (q_18, .inl (cy 0, 6, .inl (fun _ => 0))), (q_19, .inl (cy 0, 6, .inl (fun _ => 0))), (q_20, .inl (cy 0, 6, .inl (fun _ => 0))), (q_21, .inr (6, [.int 0, .int 0, .int 0, .int 0, .int 0, .ref q_26, .int 0, .ref q_27, .ref q_28, .ref q_29, .int 0, .ref q_30, .ref q_31, .ref q_32, .int 0])), (q_26, .inl (cy 0, 12, .inl (fun _ => 0))), (q_27, .inl (cy 0, 4, .inl (fun _ => 0))), (q_28, .inl (cy 0, 4, .inl (fun _ => 0))), (q_29, .inl (cy 0, 4, .inl (fun _ => 0))), (q_30, .inl (cy 0, 6, .inl (fun _ => 0))), (q_31, .inl (cy 0, 6, .inl (fun _ => 0))), (q_32, .inl (cy 0, 6, .inl (fun _ => 0))), (q_33, .inl (cy 4, 2, .inr (.inr (.inr (.inr (ar2 q_34 q_41)))))), (q_34, .inr (1, [.int 0, .ref q_39, .ref q_40])), (q_39, .inl (cy 0, 30, .inl (fun _ => 0))), (q_40, .inl (cy 0, 90, .inl (fun _ => 0))), (q_41, .inr (1, [.int 0, .ref q_46, .ref q_47])), (q_46, .inl (cy 0, 30, .inl (fun _ => 0))), (q_47, .inl (cy 0, 90, .inl (fun _ => 0))), (q_48, .inl (cy 5, 2, .inr (.inr (.inr (.inr (ar2 q_49 q_58)))))), (q_49, .inr (2, [.int 0, .ref q_54, .ref q_55, .int 0, .ref q_56, .ref q_57])), (q_54, .inl (cy 0, 9, .inl (fun _ => 0))), (q_55, .inl (cy 0, 9, .inl (fun _ => 0))), (q_56, .inl (cy 0, 16, .inl (fun _ => 0))), (q_57, .inl (cy 0, 16, .inl (fun _ => 0))), (q_58, .inr (2, [.int 0, .ref q_63, .ref q_64, .int 0, .ref q_65, .ref q_66])), (q_63, .inl (cy 0, 9, .inl (fun _ => 0))), (q_64, .inl (cy 0, 9, .inl (fun _ => 0))), (q_65, .inl (cy 0, 16, .inl (fun _ => 0))), (q_66, .inl (cy 0, 16, .inl (fun _ => 0)))] H) (i : Nat) (hi : i < zTi1.length) : va_at D vwCl ((fun i => [h0, q_1, q_6, q_7, q_8, q_9, q_14, q_15, q_16, q_17, q_18, q_19, q_20, q_21, q_26, q_27, q_28, q_29, q_30, q_31, q_32, q_33, q_34, q_39, q_40, q_41, q_46, q_47, q_48, q_49, q_54, q_55, q_56, q_57, q_58, q_63, q_64, q_65, q_66].getD i 0) i, zEv (fun i => [h0, q_1, q_6, q_7, q_8, q_9, q_14, q_15, q_16, q_17, q_18, q_19, q_20, q_21, q_26, q_27, q_28, q_29, q_30, q_31, q_32, q_33, q_34, q_39, q_40, q_41, q_46, q_47, q_48, q_49, q_54, q_55, q_56, q_57, q_58, q_63, q_64, q_65, q_66].getD i 0) cy (zkT zkds zTi1 i) (zTi1.getD i (0, [])).2) H := by
  match i, hi with
  | 0, _ => exact hP 0 _ rfl
  | 1, _ => exact hP 1 _ rfl
  | 2, _ => exact hP 2 _ rfl
  | 3, _ => exact hP 3 _ rfl
  | 4, _ =>
    show va_at D vwCl ((fun i => [h0, q_1, q_6, q_7, q_8, q_9, q_14, q_15, q_16, q_17, q_18, q_19, q_20, q_21, q_26, q_27, q_28, q_29, q_30, q_31, q_32, q_33, q_34, q_39, q_40, q_41, q_46, q_47, q_48, q_49, q_54, q_55, q_56, q_57, q_58, q_63, q_64, q_65, q_66].getD i 0) 4, .inl (cy 3, 2, .inr (.inr (.inr (.inr (fun k => zrv (fun i => [h0, q_1, q_6, q_7, q_8, q_9, q_14, q_15, q_16, q_17, q_18, q_19, q_20, q_21, q_26, q_27, q_28, q_29, q_30, q_31, q_32, q_33, q_34, q_39, q_40, q_41, q_46, q_47, q_48, q_49, q_54, q_55, q_56, q_57, q_58, q_63, q_64, q_65, q_66].getD i 0) ([.inr 5, .inr 13].getD k (.inl (-1))))))))) H
    rw [ar2_v]
    exact hP 4 _ rfl
  | 5, _ => exact hP 5 _ rfl
  | 6, _ => exact hP 6 _ rfl
  | 7, _ => exact hP 7 _ rfl
  | 8, _ => exact hP 8 _ rfl
  | 9, _ => exact hP 9 _ rfl
  | 10, _ => exact hP 10 _ rfl
  | 11, _ => exact hP 11 _ rfl
  | 12, _ => exact hP 12 _ rfl
  | 13, _ => exact hP 13 _ rfl
  | 14, _ => exact hP 14 _ rfl
  | 15, _ => exact hP 15 _ rfl
  | 16, _ => exact hP 16 _ rfl
  | 17, _ => exact hP 17 _ rfl
  | 18, _ => exact hP 18 _ rfl
  | 19, _ => exact hP 19 _ rfl
  | 20, _ => exact hP 20 _ rfl
  | 21, _ =>
    show va_at D vwCl ((fun i => [h0, q_1, q_6, q_7, q_8, q_9, q_14, q_15, q_16, q_17, q_18, q_19, q_20, q_21, q_26, q_27, q_28, q_29, q_30, q_31, q_32, q_33, q_34, q_39, q_40, q_41, q_46, q_47, q_48, q_49, q_54, q_55, q_56, q_57, q_58, q_63, q_64, q_65, q_66].getD i 0) 21, .inl (cy 4, 2, .inr (.inr (.inr (.inr (fun k => zrv (fun i => [h0, q_1, q_6, q_7, q_8, q_9, q_14, q_15, q_16, q_17, q_18, q_19, q_20, q_21, q_26, q_27, q_28, q_29, q_30, q_31, q_32, q_33, q_34, q_39, q_40, q_41, q_46, q_47, q_48, q_49, q_54, q_55, q_56, q_57, q_58, q_63, q_64, q_65, q_66].getD i 0) ([.inr 22, .inr 25].getD k (.inl (-1))))))))) H
    rw [ar2_v]
    exact hP 21 _ rfl
  | 22, _ => exact hP 22 _ rfl
  | 23, _ => exact hP 23 _ rfl
  | 24, _ => exact hP 24 _ rfl
  | 25, _ => exact hP 25 _ rfl
  | 26, _ => exact hP 26 _ rfl
  | 27, _ => exact hP 27 _ rfl
  | 28, _ =>
    show va_at D vwCl ((fun i => [h0, q_1, q_6, q_7, q_8, q_9, q_14, q_15, q_16, q_17, q_18, q_19, q_20, q_21, q_26, q_27, q_28, q_29, q_30, q_31, q_32, q_33, q_34, q_39, q_40, q_41, q_46, q_47, q_48, q_49, q_54, q_55, q_56, q_57, q_58, q_63, q_64, q_65, q_66].getD i 0) 28, .inl (cy 5, 2, .inr (.inr (.inr (.inr (fun k => zrv (fun i => [h0, q_1, q_6, q_7, q_8, q_9, q_14, q_15, q_16, q_17, q_18, q_19, q_20, q_21, q_26, q_27, q_28, q_29, q_30, q_31, q_32, q_33, q_34, q_39, q_40, q_41, q_46, q_47, q_48, q_49, q_54, q_55, q_56, q_57, q_58, q_63, q_64, q_65, q_66].getD i 0) ([.inr 29, .inr 34].getD k (.inl (-1))))))))) H
    rw [ar2_v]
    exact hP 28 _ rfl
  | 29, _ => exact hP 29 _ rfl
  | 30, _ => exact hP 30 _ rfl
  | 31, _ => exact hP 31 _ rfl
  | 32, _ => exact hP 32 _ rfl
  | 33, _ => exact hP 33 _ rfl
  | 34, _ => exact hP 34 _ rfl
  | 35, _ => exact hP 35 _ rfl
  | 36, _ => exact hP 36 _ rfl
  | 37, _ => exact hP 37 _ rfl
  | 38, _ => exact hP 38 _ rfl
  | i + 39, hi => exact absurd hi (by show ¬ (i + 39 < 39); omega)
set_option maxHeartbeats 4000000 in
set_option maxRecDepth 100000 in
theorem zi2_at {D : va_G} {cy : Nat → ClassId} {h0 q_1 q_6 q_7 q_8 q_9 q_14 q_15 q_16 q_17 q_18 q_19 q_20 q_21 q_26 q_27 q_28 q_29 q_30 q_31 q_32 q_33 q_34 q_39 q_40 q_41 q_46 q_47 q_48 q_49 q_54 q_55 q_56 q_57 q_58 q_63 q_64 q_65 q_66 : Nat} {H : Heap} (hP : va_P D vwCl [(h0, .inr (9, [.ref q_1, .ref q_7, .ref q_8, .ref q_33, .ref q_48, .int 0, .int (-1)])), (q_1, .inr (8, [.ref q_6, .int 0])), (q_6, .inl (cy 1, 600, .inl (fun _ => 0))), (q_7, .inl (cy 0, 3, .inl (fun _ => 0))), (q_8, .inl (cy 3, 2, .inr (.inr (.inr (.inr (ar2 q_9 q_21)))))), (q_9, .inr (6, [.int 0, .int 0, .int 0, .int 0, .int 0, .ref q_14, .int 0, .ref q_15, .ref q_16, .ref q_17, .int 0, .ref q_18, .ref q_19, .ref q_20, .int 0])), (q_14, .inl (cy 0, 12, .inl (fun _ => 0))), (q_15, .inl (cy 0, 4, .inl (fun _ => 0))), (q_16, .inl (cy 0, 4, .inl (fun _ => 0))), (q_17, .inl (cy 0, 4, .inl (fun _ => 0))), (q_18, .inl (cy 0, 6, .inl (fun _ => 0))), (q_19, .inl (cy 0, 6, .inl (fun _ => 0))), (q_20, .inl (cy 0, 6, .inl (fun _ => 0))), (q_21, .inr (6, [.int 0, .int 0, .int 0, .int 0, .int 0, .ref q_26, .int 0, .ref q_27, .ref q_28, .ref q_29, .int 0, .ref q_30, .ref q_31, .ref q_32, .int 0])), (q_26, .inl (cy 0, 12, .inl (fun _ => 0))), (q_27, .inl (cy 0, 4, .inl (fun _ => 0))), (q_28, .inl (cy 0, 4, .inl (fun _ => 0))), (q_29, .inl (cy 0, 4, .inl (fun _ => 0))), (q_30, .inl (cy 0, 6, .inl (fun _ => 0))), (q_31, .inl (cy 0, 6, .inl (fun _ => 0))), (q_32, .inl (cy 0, 6, .inl (fun _ => 0))), (q_33, .inl (cy 4, 2, .inr (.inr (.inr (.inr (ar2 q_34 q_41)))))), (q_34, .inr (1, [.int 0, .ref q_39, .ref q_40])), (q_39, .inl (cy 0, 30, .inl (fun _ => 0))), (q_40, .inl (cy 0, 90, .inl (fun _ => 0))), (q_41, .inr (1, [.int 0, .ref q_46, .ref q_47])), (q_46, .inl (cy 0, 30, .inl (fun _ => 0))), (q_47, .inl (cy 0, 90, .inl (fun _ => 0))), (q_48, .inl (cy 5, 2, .inr (.inr (.inr (.inr (ar2 q_49 q_58)))))), (q_49, .inr (2, [.int 0, .ref q_54, .ref q_55, .int 0, .ref q_56, .ref q_57])), (q_54, .inl (cy 0, 9, .inl (fun _ => 0))), (q_55, .inl (cy 0, 9, .inl (fun _ => 0))), (q_56, .inl (cy 0, 16, .inl (fun _ => 0))), (q_57, .inl (cy 0, 16, .inl (fun _ => 0))), (q_58, .inr (2, [.int 0, .ref q_63, .ref q_64, .int 0, .ref q_65, .ref q_66])), (q_63, .inl (cy 0, 9, .inl (fun _ => 0))), (q_64, .inl (cy 0, 9, .inl (fun _ => 0))), (q_65, .inl (cy 0, 16, .inl (fun _ => 0))), (q_66, .inl (cy 0, 16, .inl (fun _ => 0)))] H) (i : Nat) (hi : i < zTi2.length) : va_at D vwCl ((fun i => [h0, q_1, q_6, q_7, q_8, q_9, q_14, q_15, q_16, q_17, q_18, q_19, q_20, q_21, q_26, q_27, q_28, q_29, q_30, q_31, q_32, q_33, q_34, q_39, q_40, q_41, q_46, q_47, q_48, q_49, q_54, q_55, q_56, q_57, q_58, q_63, q_64, q_65, q_66].getD i 0) i, zEv (fun i => [h0, q_1, q_6, q_7, q_8, q_9, q_14, q_15, q_16, q_17, q_18, q_19, q_20, q_21, q_26, q_27, q_28, q_29, q_30, q_31, q_32, q_33, q_34, q_39, q_40, q_41, q_46, q_47, q_48, q_49, q_54, q_55, q_56, q_57, q_58, q_63, q_64, q_65, q_66].getD i 0) cy (zkT zkds zTi2 i) (zTi2.getD i (0, [])).2) H := by
  match i, hi with
  | 0, _ => exact hP 0 _ rfl
  | 1, _ => exact hP 1 _ rfl
  | 2, _ => exact hP 2 _ rfl
  | 3, _ => exact hP 3 _ rfl
  | 4, _ =>
    show va_at D vwCl ((fun i => [h0, q_1, q_6, q_7, q_8, q_9, q_14, q_15, q_16, q_17, q_18, q_19, q_20, q_21, q_26, q_27, q_28, q_29, q_30, q_31, q_32, q_33, q_34, q_39, q_40, q_41, q_46, q_47, q_48, q_49, q_54, q_55, q_56, q_57, q_58, q_63, q_64, q_65, q_66].getD i 0) 4, .inl (cy 3, 2, .inr (.inr (.inr (.inr (fun k => zrv (fun i => [h0, q_1, q_6, q_7, q_8, q_9, q_14, q_15, q_16, q_17, q_18, q_19, q_20, q_21, q_26, q_27, q_28, q_29, q_30, q_31, q_32, q_33, q_34, q_39, q_40, q_41, q_46, q_47, q_48, q_49, q_54, q_55, q_56, q_57, q_58, q_63, q_64, q_65, q_66].getD i 0) ([.inr 5, .inr 13].getD k (.inl (-1))))))))) H
    rw [ar2_v]
    exact hP 4 _ rfl
  | 5, _ => exact hP 5 _ rfl
  | 6, _ => exact hP 6 _ rfl
  | 7, _ => exact hP 7 _ rfl
  | 8, _ => exact hP 8 _ rfl
  | 9, _ => exact hP 9 _ rfl
  | 10, _ => exact hP 10 _ rfl
  | 11, _ => exact hP 11 _ rfl
  | 12, _ => exact hP 12 _ rfl
  | 13, _ => exact hP 13 _ rfl
  | 14, _ => exact hP 14 _ rfl
  | 15, _ => exact hP 15 _ rfl
  | 16, _ => exact hP 16 _ rfl
  | 17, _ => exact hP 17 _ rfl
  | 18, _ => exact hP 18 _ rfl
  | 19, _ => exact hP 19 _ rfl
  | 20, _ => exact hP 20 _ rfl
  | 21, _ =>
    show va_at D vwCl ((fun i => [h0, q_1, q_6, q_7, q_8, q_9, q_14, q_15, q_16, q_17, q_18, q_19, q_20, q_21, q_26, q_27, q_28, q_29, q_30, q_31, q_32, q_33, q_34, q_39, q_40, q_41, q_46, q_47, q_48, q_49, q_54, q_55, q_56, q_57, q_58, q_63, q_64, q_65, q_66].getD i 0) 21, .inl (cy 4, 2, .inr (.inr (.inr (.inr (fun k => zrv (fun i => [h0, q_1, q_6, q_7, q_8, q_9, q_14, q_15, q_16, q_17, q_18, q_19, q_20, q_21, q_26, q_27, q_28, q_29, q_30, q_31, q_32, q_33, q_34, q_39, q_40, q_41, q_46, q_47, q_48, q_49, q_54, q_55, q_56, q_57, q_58, q_63, q_64, q_65, q_66].getD i 0) ([.inr 22, .inr 25].getD k (.inl (-1))))))))) H
    rw [ar2_v]
    exact hP 21 _ rfl
  | 22, _ => exact hP 22 _ rfl
  | 23, _ => exact hP 23 _ rfl
  | 24, _ => exact hP 24 _ rfl
  | 25, _ => exact hP 25 _ rfl
  | 26, _ => exact hP 26 _ rfl
  | 27, _ => exact hP 27 _ rfl
  | 28, _ =>
    show va_at D vwCl ((fun i => [h0, q_1, q_6, q_7, q_8, q_9, q_14, q_15, q_16, q_17, q_18, q_19, q_20, q_21, q_26, q_27, q_28, q_29, q_30, q_31, q_32, q_33, q_34, q_39, q_40, q_41, q_46, q_47, q_48, q_49, q_54, q_55, q_56, q_57, q_58, q_63, q_64, q_65, q_66].getD i 0) 28, .inl (cy 5, 2, .inr (.inr (.inr (.inr (fun k => zrv (fun i => [h0, q_1, q_6, q_7, q_8, q_9, q_14, q_15, q_16, q_17, q_18, q_19, q_20, q_21, q_26, q_27, q_28, q_29, q_30, q_31, q_32, q_33, q_34, q_39, q_40, q_41, q_46, q_47, q_48, q_49, q_54, q_55, q_56, q_57, q_58, q_63, q_64, q_65, q_66].getD i 0) ([.inr 29, .inr 34].getD k (.inl (-1))))))))) H
    rw [ar2_v]
    exact hP 28 _ rfl
  | 29, _ => exact hP 29 _ rfl
  | 30, _ => exact hP 30 _ rfl
  | 31, _ => exact hP 31 _ rfl
  | 32, _ => exact hP 32 _ rfl
  | 33, _ => exact hP 33 _ rfl
  | 34, _ => exact hP 34 _ rfl
  | 35, _ => exact hP 35 _ rfl
  | 36, _ => exact hP 36 _ rfl
  | 37, _ => exact hP 37 _ rfl
  | 38, _ => exact hP 38 _ rfl
  | i + 39, hi => exact absurd hi (by show ¬ (i + 39 < 39); omega)
end
section
variable {η : zRn}
theorem zTpl2 (ws : List Cond) (ps qs : List Nat) (hp : ws.filter (fun w => !k2_isCode w) = ps.filterMap (fun i => lw_tbl[i]?)) (hg : (ws.filter (fun w => !k2_isCode w)).all goodWord = true) (hq : ws.filter k2_isCode = qs.filterMap (fun i => lw_tbl[i]?)) : ∀ w ∈ ws, w ∈ zTW := by
  intro w hw
  by_cases hc : k2_isCode w = true
  · have h1 : w ∈ ws.filter k2_isCode := List.mem_filter.mpr ⟨hw, hc⟩
    rw [hq] at h1
    obtain ⟨i, -, hi⟩ := List.mem_filterMap.mp h1
    refine List.mem_filter.mpr ⟨List.mem_of_getElem? hi, ?_⟩
    cases w <;> first | (simp [k2_isCode] at hc; done) | rfl
  · have h1 : w ∈ ws.filter (fun w => !k2_isCode w) := List.mem_filter.mpr ⟨hw, by simpa using hc⟩
    have h2 := List.all_eq_true.mp hg w h1
    rw [hp] at h1
    obtain ⟨i, -, hi⟩ := List.mem_filterMap.mp h1
    exact List.mem_filter.mpr ⟨List.mem_of_getElem? hi, h2⟩
theorem z_gdin {ws : List Cond} {w0 : Cond} (h : ∀ w ∈ ws, w ∈ zTW) : GoodIn (w0 :: zTW) ws := fun w hw => ⟨List.mem_cons_of_mem _ (h w hw), zTW_good w (h w hw)⟩
theorem W_sz {p : Program} {l : Launch} {e : Env} {R : Room} {s : State} {m : MethodId} {args : Array Value} {below : List Frame} {meth : Method} {c : Code} {H : Heap} {locs : List Loc} {cells slots : Nat} {Q : State → Prop} {g : JFrame} (k : H.size ≤ s.heap.size + cells → W p l e R s m args below meth c H locs cells slots Q g) : W p l e R s m args below meth c H locs cells slots Q g := fun T hT X => k (by rw [← hT]; exact X.heapSize) T hT X
/-! addresses of a list of new cells -/
theorem zAD_inj {A : Nat → Prop} {ws : va_W} (hD : va_D A ws) : zinj ws.length (fun i => (ws.map (·.1)).getD i 0) := by
  intro i j hi hj e
  have gi : ∀ i (hi : i < ws.length), (ws.map (·.1)).getD i 0 = ws[i].1 := fun i hi => by
    rw [List.getD_eq_getElem?_getD, List.getElem?_map, List.getElem?_eq_getElem hi]
    rfl
  simp only [gi i hi, gi j hj] at e
  exact hD.1 i j ws[i] ws[j] (List.getElem?_eq_getElem hi) (List.getElem?_eq_getElem hj) e
theorem zAD_A {A : Nat → Prop} {ws : va_W} (hD : va_D A ws) {i : Nat} (hi : i < ws.length) : A ((ws.map (·.1)).getD i 0) := by
  rw [List.getD_eq_getElem?_getD, List.getElem?_map, List.getElem?_eq_getElem hi]
  exact hD.2 i ws[i] (List.getElem?_eq_getElem hi)
theorem zAD_lt {D : va_G} {cl : List vw_C} {H : Heap} {ws : va_W} (hP : va_P D cl ws H) {i : Nat} (hi : i < ws.length) : (ws.map (·.1)).getD i 0 < H.size := by
  rw [List.getD_eq_getElem?_getD, List.getElem?_map, List.getElem?_eq_getElem hi]
  exact (hP i ws[i] (List.getElem?_eq_getElem hi)).lt
theorem z_vaA1 {q : Nat} {e : va_E} {sz r : Nat} (h : va_A [(q, e)] sz r) : r = q ∨ sz ≤ r := by
  rcases h with ⟨k, e2, h⟩ | h
  · cases k with
    | zero =>
      simp at h
      exact Or.inl h.1.symm
    | succ k => simp at h
  · exact Or.inr h
/-! which cells have no name yet -/
/-- the names of Strings stay -/
def zTns (T : zTm) : Bool := T.all (fun q => decide (q.1 < 59) || decide (61 < q.1))
theorem zNm_app {T : zTm} {cd : Nat → Nat} {Θ : Nat → Option Nat} (hN : zNm Θ) (hT : zTns T = true) (hj : zinj T.length cd) (hlt : ∀ i, i < T.length → cd i < 1000000) : zNm (zTh T cd Θ) := by
  refine ⟨fun i hi => ?_, fun a n h1 h2 ha => ?_⟩
  · rw [zTh_ne (fun k hk e => by have := hlt k hk; omega)]
    exact hN.1 i hi
  · by_cases hex : ∃ i, i < T.length ∧ cd i = a
    · obtain ⟨i, hi, rfl⟩ := hex
      rw [zTh_at hj hi] at ha
      have e := Option.some.inj ha
      have := List.all_eq_true.mp hT _ (List.mem_of_getElem? (z_gdT2 hi))
      simp only [Bool.or_eq_true, decide_eq_true_eq] at this
      unfold zKs at e
      omega
    · rw [zTh_ne (fun i hi e => hex ⟨i, hi, e⟩)] at ha
      exact hN.2 a n h1 h2 ha
/-! images one by one -/
section LRI
variable {D : va_G} {cy : Nat → ClassId} {L : List Nat} {Θ : Nat → Option Nat} {h h' : Nat → Nat → Int} {H : Heap} {a : Nat}
end LRI
theorem zTi_ns : zTns zTi0 = true ∧ zTns zTi1 = true ∧ zTns zTi2 = true ∧ zTns zTc = true := by decide +kernel
set_option maxRecDepth 100000 in
theorem zin_X9_init : ∀ w ∈ wsX9_init, w ∈ zTW := zTpl2 _ [135, 128, 136, 137, 103, 309, 250, 311, 153, 155, 104, 313, 251, 253, 105, 314, 273, 275, 106, 315, 318, 139, 141, 152, 142, 157, 159, 178, 186, 190, 194, 203, 208, 212, 255, 257, 262, 265, 277, 279, 284, 286, 292, 294, 147, 149, 320, 322, 324, 326, 328, 330, 332, 219, 221, 223, 225, 227, 229, 231, 233, 235, 237, 239, 241, 243, 245, 247, 266, 268, 270, 296, 298, 300, 302, 304, 306] [134, 129, 140, 158, 256, 278] (by decide +kernel) (by decide +kernel) rfl
set_option maxRecDepth 100000 in
theorem zin_X11_init : ∀ w ∈ wsX11_init, w ∈ zTW := zTpl2 _ [127, 128, 130, 131, 102, 574, 575, 336, 337, 107, 576, 384, 385, 108, 577, 492, 493, 110, 578, 516, 517, 111, 579, 547, 548, 112, 580, 133, 135, 136, 137, 103, 309, 250, 311, 153, 155, 104, 313, 251, 253, 105, 314, 273, 275, 106, 315, 318, 139, 141, 152, 142, 157, 159, 178, 186, 190, 194, 203, 208, 212, 255, 257, 262, 265, 277, 279, 284, 286, 292, 294, 339, 341, 342, 348, 344, 350, 346, 352, 358, 359, 387, 389, 390, 391, 109, 434, 436, 438, 440, 458, 393, 395, 396, 399, 402, 404, 407, 409, 495, 497, 498, 506, 519, 521, 528, 529, 530, 550, 552, 553, 555, 557, 558, 559, 560, 320, 322, 324, 326, 328, 330, 332, 581, 583, 585, 587, 589, 591, 593, 363, 365, 367, 369, 371, 373, 375, 377, 379, 381, 459, 461, 463, 465, 467, 469, 471, 473, 475, 477, 479, 481, 483, 485, 487, 489, 507, 509, 511, 513, 532, 534, 536, 538, 540, 542, 544, 561, 563, 565, 567, 569, 571, 147, 149, 219, 221, 223, 225, 227, 229, 231, 233, 235, 237, 239, 241, 243, 245, 247, 266, 268, 270, 296, 298, 300, 302, 304, 306, 413, 415, 417, 419, 421, 423, 425, 427] [126, 129, 134, 140, 158, 256, 278, 340, 388, 394, 496, 520, 551] (by decide +kernel) (by decide +kernel) rfl
set_option maxRecDepth 100000 in
theorem zin_X12_init : ∀ w ∈ wsX12_init, w ∈ zTW := zTpl2 _ [1298, 128, 152, 1300, 250, 1301, 1302, 1303, 1304, 1305, 1306, 1307, 1317, 1318, 1329, 1330, 1331, 1335, 1336, 1337, 1338, 1339, 1340, 1341, 1342, 1343, 1344, 1345, 1346, 1347, 1492, 1351, 1352, 1353, 1357, 1358, 1359, 1360, 1361, 1362, 1363, 1365, 1367, 1369, 1371, 1373, 1375, 1377, 1379, 1381, 1383, 1385, 1387, 1389, 1391, 1393, 1395, 1397, 1399, 1401, 1403, 1405, 1407, 1409, 1411, 1413, 1415, 1417, 1419, 1421, 1423, 1425, 1427, 1429, 1431, 1433, 1435, 1437, 1439, 1441, 1443, 1445, 1447, 1449, 1451, 1453, 1455, 1457, 1459, 1461, 1463, 1465, 1467, 1469, 1471, 1473, 1475, 1477, 1479, 1481, 1483, 1485, 1487, 1489] [1297, 129] (by decide +kernel) (by decide +kernel) rfl
end
section
/-! THE CLAIM OUT OF ONE WALK OF THE LAW'S BODY. Your part is whole_start (and what it stands on); all else here is the same for every law, but numbers. -/
def R_law : String := "ShoalClaimsLaw"
def lw_P (b : Addr) (xs : List Int32) (args : Array Value) (s : State) : Prop := args = #[.ref b] ∧ s.IntsAt b xs ∧ xs.length ≤ 3072 ∧ (Jvm.Cond.and given_1 narrow_1).before args s = true
def lw_Q (_ : Array Value) (s : State) (o : Outcome) (t : State) : Prop := o = .returned (some (.int 1)) ∧ Framed s o t [] 600000 7302250
def lw_Z (below : List Frame) (a : Array Value) (s : State) : State → Prop := fun t => ∃ o, t.status = .running ∧ Ended t below o ∧ lw_Q a s o t
/-- the law's own end, with 1 on the stack, nothing written that was there before, its room as the claim has it -/
theorem lw_ret {p : Program} {l : Launch} {e : Env} {s : State} {m : MethodId} {below : List Frame} {meth : Method} {c : Code} {b : Nat} (hx : p.tables.exec = Jvm.exec) (hb : c.code = code) (hr : meth.sig.returnType = ret) (hlocks : meth.locks = false) {pc : Nat} {H : Heap} {ls : Array Slot} (hdg : decode code pc = .ok (.ireturn, 1)) : W p l e room_1 s m #[Value.ref b] below meth c H [] 600000 7302250 (lw_Z below #[Value.ref b] s) (F0 m pc ls [.int 1]) := by
  intro T hT X
  obtain ⟨fs, hret, hrun, hended, hW, hframe⟩ := X.leave (v := some (.int 1)) (hlocks := hlocks) (fun h => by rw [hr] at h; cases h)
  have hmeth' : T.vm.method? m = some meth := X.method'
  refine ⟨T.setFrames fs, ?_, .returned (some (.int 1)), hrun, hended, rfl, ⟨_, rfl⟩, hW, hframe⟩
  jvm_step X.here [X.here.top, hx, hb, hdg, hmeth', hr, ret, narrow_b1]
  (try refine ⟨rfl, ?_⟩); (try refine ⟨rfl, ?_⟩)
  first | (intro acts; rw [hret _ acts rfl rfl rfl]) | rw [hret _ _ rfl rfl rfl]
  exact Steps.refl _
/-- what holds at the law's entry: the machine, the code, the tables' words (any of lw_tbl by 'hts w (by decide +kernel)'), the script of L ints xs at the cell b, what the Statement gives of the start (any of its parts by flat_of_before) -/
def lw_At (p : Program) (s : State) (m : MethodId) (meth : Method) (c : Code) (b L : Nat) (xs : Nat → Int32) : Prop :=
  p.tables.exec = Jvm.exec ∧ c.code = code ∧ meth.sig.returnType = ret ∧ c.maxLocals = 4 ∧ s.vm.findClass R_law = some m.cls ∧ (∀ w ∈ lw_tbl, w.before #[Value.ref b] s = true) ∧ va_X b L xs s s.heap ∧ b < s.heap.size ∧ meth.locks = false ∧ (Jvm.Cond.and given_1 narrow_1).before #[Value.ref b] s = true
theorem zl_i11 : Cond.initialized RX11 ∈ zTW := zTin 101 (by decide +kernel) rfl
/-! the law's walk: what is at hand, and what holds between two calls -/
theorem z_lwt {w : Cond} (h : w ∈ zTW) : w ∈ lw_tbl := (List.mem_filter.mp h).1
def lwW0 : Cond := Cond.initialized RX11
theorem lwW0_in : lwW0 ∈ lw_tbl := z_lwt zl_i11
theorem lw_S {p : Program} {s : State} {m : MethodId} {meth : Method} {c : Code} {b L : Nat} {xs : Nat → Int32} (C0 : lw_At p s m meth c b L xs) : CallFix p m c code 4 s #[Value.ref b] (lwW0 :: zTW) RL := by
  obtain ⟨hx, hb, hr, hml, hown, hts0, hX, hbl, hlocks, hgv⟩ := C0
  refine ⟨hx, hb, hml, hown, fun w hw => ?_⟩
  rcases List.mem_cons.mp hw with rfl | hw
  · exact hts0 _ lwW0_in
  · exact hts0 _ (z_lwt hw)
/-- the law's locals -/
def lwL (ls : Array Slot) (qa qr i b : Nat) : Prop := lv_has ls 4 [(3, .int (nI i)), (2, .ref qr), (1, .ref qa), (0, .ref b)]
section LWG
variable {η ζ : zRn} {F : Prop} {p : Program} {l : Launch} {e : Env} {s : State} {m : MethodId} {below : List Frame} {meth : Method} {c : Code} {b N : Nat} {xs : Nat → Int32} {Q : State → Prop} {H : Heap} {locs : List Loc} {cells slots pc : Nat} {ls : Array Slot} {st rest : List Value} {a r i qa qr : Nat} {D : va_G} {cy : Nat → ClassId}
/-- one number of the script -/
theorem lw_arg (C0 : lw_At p s m meth c b N xs) (hN : N ≤ 3072) (hS : va_S (fun q => s.heap.size ≤ q) s.heap H locs) (hl : lwL ls qa qr i b) (k : Nat) (hi : i + 6 ≤ N) (hk : k < 6) {v : Int} (hv : Int32.ofInt v = nI k) (d1 : decode code pc = .ok (.aload_n 0, 1)) (d2 : decode code (pc + 1) = .ok (.iload_n 3, 1)) (d3 : decode code (pc + 1 + 1) = .ok (.iconst v, 1)) (d4 : decode code (pc + 1 + 1 + 1) = .ok (.iadd, 1)) (d5 : decode code (pc + 1 + 1 + 1 + 1) = .ok (.iaload, 1))
    (w : W p l e room_1 s m #[Value.ref b] below meth c H locs cells slots Q (F0 m (pc + 1 + 1 + 1 + 1 + 1) ls (.int (xs (i + k)) :: st))) : W p l e room_1 s m #[Value.ref b] below meth c H locs cells slots Q (F0 m pc ls st) := by
  obtain ⟨hx, hb, hr, hml, hown, hts0, hX, hbl, hlocks, hgv⟩ := C0
  refine lv_aload_n hx hb d1 rfl (lv_at hl 3 rfl) ?_
  refine lv_iload_n hx hb d2 rfl (lv_at hl 0 rfl) ?_
  refine lv_iconst (v := nI k) hx hb d3 hv ?_
  refine lv_iadd hx hb d4 ?_
  rw [nI_add]
  refine va_sld (A := fun q => s.heap.size ≤ q) hx hb hX hbl (Nat.not_le.mpr hbl) hS (vp_in_nI (by omega) (by omega)) d5 ?_
  rw [nI_clamp (by omega)]
  exact w
/-- the class's names: Strings, all cells named, the Claims, no name yet for images that aren't there -/
def nmC (η : zRn) (adK : Nat → Nat) (L : List Nat) (Θ : Nat → Option Nat) (h : yH) : Prop := zNm Θ ∧ (∀ i, i < 15 → η.1 (1000000 + i) = adK i) ∧ (∀ q ∈ L, ∃ k, Θ (η.2 q) = some k) ∧ Θ 1 = some 63 ∧ ∀ k, k < 3 → h 2 k = -1 → ∀ a, 1000 * (k + 1) ≤ a → a < 1000 * (k + 2) → Θ a = none
/-- the cells of both -/
def lwB (s : State) (L M : List Nat) : Prop := L.Nodup ∧ M.Nodup ∧ (∀ q ∈ L, q ∉ M) ∧ (∀ q ∈ L, s.heap.size ≤ q) ∧ ∀ q ∈ M, s.heap.size ≤ q
/-- what holds between two calls -/
def lwI (F : Prop) (s : State) (D : va_G) (cy : Nat → ClassId) (adK : Nat → Nat) (qa qr : Nat) (H : Heap) : Prop := ∃ (η ζ : zRn) (L M : List Nat) (Θ Ξ : Nat → Option Nat) (h g : Nat → Nat → Int), lwB s L M ∧ nmC η adK L Θ h ∧ nmR Ξ ∧ zH η zkds D vwCl cy L Θ h H ∧ zH ζ zkdm D vwCl cy M Ξ g H ∧ (η.1 1 = qa ∧ ζ.1 35 = qr) ∧ RW F h g
/-- the machine's side of the walk: what stays the same -/
def lwX (l : Launch) (p : Program) (s : State) (m : MethodId) (meth : Method) (c : Code) (b N : Nat) (xs : Nat → Int32) (D : va_G) (cy : Nat → ClassId) (tb adK adV : Nat → Nat) (fv : Option Nat) : Prop := lw_At p s m meth c b N xs ∧ N ≤ 3072 ∧ KW D cy s ∧ zS0 s.heap.size tb adK adV fv s
variable {tb adK adV : Nat → Nat} {fv : Option Nat} {L M : List Nat} {Θ Ξ : Nat → Option Nat} {h g : Nat → Nat → Int}
theorem z_i32 {As : List Int} {ivs : List zIV} (h : zge As ivs) (hv : ivs.all (fun q => decide (-2147483648 ≤ q.1) && decide (q.2 ≤ 2147483647)) = true) : ∀ x ∈ As, -2147483648 ≤ x ∧ x ≤ 2147483647 := by
  intro x hx
  obtain ⟨i, hi⟩ := List.getElem?_of_mem hx
  have hlt := (List.getElem?_eq_some_iff.mp hi).1
  have hlt2 : i < ivs.length := by rw [← h.1]; exact hlt
  have hq : ivs[i]? = some ivs[i] := List.getElem?_eq_getElem hlt2
  have h1 := h.2 i _ hq
  have h2 := List.all_eq_true.mp hv _ (List.mem_of_getElem? hq)
  simp only [Bool.and_eq_true, decide_eq_true_eq] at h2
  rw [List.getD_eq_getElem?_getD, hi] at h1
  simp only [Option.getD_some] at h1
  omega
theorem zb0 {a : Nat} {As T : List Int} {ivs Tiv : List zIV} (ha : a < 1000000) (hAs : zge As ivs) (hT : zge T Tiv) : zge (([0, (a : Int)] ++ As) ++ T) (([(0, 0), (0, 2147483647)] ++ ivs) ++ Tiv) := zg_app (zg_app (zg_c (by decide) (by decide) (zg_c (by show (0 : Int) ≤ (a : Int); omega) (by show (a : Int) ≤ 2147483647; omega) zg_n)) hAs) hT
/-- a call of the class -/
theorem lwC {C : zCT} {As T : List Int} {ivs Tiv : List zIV} (X : lwX l p s m meth c b N xs D cy tb adK adV fv) (hM : zMet zkds vwCl zTW zKP l C) (hC : zCV zkds vwCl zTW RL code room_1.frames room_1.locals pc C) (hea : C.2.2.1.1 = zea 65 As.length) (henv : C.2.2.1.2.1 = ([(0, 0), (0, 2147483647)] ++ ivs) ++ Tiv) (hrel : C.2.2.1.2.2.2.2.2 = []) (hiv : ivs.all (fun q => decide (-2147483648 ≤ q.1) && decide (q.2 ≤ 2147483647)) = true) (hAs : zge As ivs) (hT : zge T Tiv) (hout : zone1 C.2.2.2.1 = true) (ha1 : a < 1000000)
    (hB : lwB s L M) (hNm : zNm Θ) (hη : ∀ i, i < 15 → η.1 (1000000 + i) = adK i) (hH : zH η zkds D vwCl cy L Θ h H) (hG : zH ζ zkdm D vwCl cy M Ξ g H) (ha : Θ a = some 63) (hV : zgv Θ h (([0, (a : Int)] ++ As) ++ T) C.2.2.1.2.2.2.2.1)
    (hS : va_S (fun q => s.heap.size ≤ q) s.heap H locs) (hcs : cells ≤ 600000 ∧ slots ≤ 7302250) (hl : lwL ls qa qr i b) (hcat : (rest.map (fun v => v.category)).sum ≤ 8) (hst : st = (As.map (fun x => (.int (Int32.ofInt x) : Value))).reverse ++ (.ref (η.1 a) :: rest))
    (k : ∀ (out : zAS) (q : zAV) (ρ : List Int) (h' : Nat → Nat → Int) (H1 : Heap) (locs1 : List Loc), out ∈ C.2.2.2.1 → out.2.2.1 = [q] → zge ((([0, (a : Int)] ++ As) ++ T) ++ ρ) out.1 → zgv Θ h' ((([0, (a : Int)] ++ As) ++ T) ++ ρ) out.2.2.2.1 → zH η zkds D vwCl cy L Θ h' H1 → (∀ a k j, Θ a = some k → zinE C.2.2.2.2 k j j = false → h' a j = h a j) → zH ζ zkdm D vwCl cy M Ξ g H1 → va_S (fun q => s.heap.size ≤ q) s.heap H1 locs1 →
      W p l e room_1 s m #[Value.ref b] below meth c H1 locs1 cells slots Q (F0 m (pc + 3) ls (.int (Int32.ofInt (zev ((([0, (a : Int)] ++ As) ++ T) ++ ρ) q)) :: rest))) :
    W p l e room_1 s m #[Value.ref b] below meth c H locs cells slots Q (F0 m pc ls st) := by
  obtain ⟨C0, hN, hKW, hZ⟩ := X
  obtain ⟨hLn, hMn, hLM, hLb, hMb⟩ := hB
  have hKP : zKP η D cy L Θ s := ⟨hKW, zST_of hη hZ hLb hNm⟩
  refine lw_call zkp_ok zTW_good rfl hM hLn (lw_S C0) hKP hC hcs (by rw [henv]; exact zb0 ha1 hAs hT) (by rw [hea]; exact zea_ga ha (z_i32 hAs hiv)) hV (by rw [hrel]; exact z_rl0) hH hLb hS (fun q h1 _ => hS.2.1 q h1 (Nat.not_le.mpr h1)) hl.1 hcat ?_ (fun v out ρ h' H1 locs1 ho oE oS ov oV oH oX oz oq oSS => ?_)
  · rw [hst, hea, zea_vo]
    simp
  · obtain ⟨q, hq, -, hv⟩ := z_one1 hout ho ov
    rw [hv]
    exact k out q ρ h' H1 locs1 ho hq oE oV oH oX (zH_kept hG (fun q hq => oq q (zH_lt hG hq) (fun z => hLM q z hq))) oSS
/-- a call of the reference -/
theorem lwR {C : zCT} {As T : List Int} {ivs Tiv : List zIV} (X : lwX l p s m meth c b N xs D cy tb adK adV fv) (hM : zMet zkdm vwCl zTW zKPr l C) (hC : zCV zkdm vwCl zTW RL code room_1.frames room_1.locals pc C) (hea : C.2.2.1.1 = zea 37 As.length) (henv : C.2.2.1.2.1 = ([(0, 0), (0, 2147483647)] ++ ivs) ++ Tiv) (hrel : C.2.2.1.2.2.2.2.2 = []) (hiv : ivs.all (fun q => decide (-2147483648 ≤ q.1) && decide (q.2 ≤ 2147483647)) = true) (hAs : zge As ivs) (hT : zge T Tiv) (hout : zone1 C.2.2.2.1 = true) (hr1 : r < 1000000)
    (hB : lwB s L M) (hH : zH η zkds D vwCl cy L Θ h H) (hG : zH ζ zkdm D vwCl cy M Ξ g H) (hr : Ξ r = some 35) (hV : zgv Ξ g (([0, (r : Int)] ++ As) ++ T) C.2.2.1.2.2.2.2.1)
    (hS : va_S (fun q => s.heap.size ≤ q) s.heap H locs) (hcs : cells ≤ 600000 ∧ slots ≤ 7302250) (hl : lwL ls qa qr i b) (hcat : (rest.map (fun v => v.category)).sum ≤ 8) (hst : st = (As.map (fun x => (.int (Int32.ofInt x) : Value))).reverse ++ (.ref (ζ.1 r) :: rest))
    (k : ∀ (out : zAS) (q : zAV) (ρ : List Int) (g' : Nat → Nat → Int) (H1 : Heap) (locs1 : List Loc), out ∈ C.2.2.2.1 → out.2.2.1 = [q] → zge ((([0, (r : Int)] ++ As) ++ T) ++ ρ) out.1 → zgv Ξ g' ((([0, (r : Int)] ++ As) ++ T) ++ ρ) out.2.2.2.1 → zH η zkds D vwCl cy L Θ h H1 → (∀ a k j, Ξ a = some k → zinE C.2.2.2.2 k j j = false → g' a j = g a j) → zH ζ zkdm D vwCl cy M Ξ g' H1 → va_S (fun q => s.heap.size ≤ q) s.heap H1 locs1 →
      W p l e room_1 s m #[Value.ref b] below meth c H1 locs1 cells slots Q (F0 m (pc + 3) ls (.int (Int32.ofInt (zev ((([0, (r : Int)] ++ As) ++ T) ++ ρ) q)) :: rest))) :
    W p l e room_1 s m #[Value.ref b] below meth c H locs cells slots Q (F0 m pc ls st) := by
  obtain ⟨C0, hN, hKW, hZ⟩ := X
  obtain ⟨hLn, hMn, hLM, hLb, hMb⟩ := hB
  refine lw_call zkpr_ok zTW_good rfl hM hMn (lw_S C0) (show zKPr ζ D cy M Ξ s from hKW) hC hcs (by rw [henv]; exact zb0 hr1 hAs hT) (by rw [hea]; exact zea_ga hr (z_i32 hAs hiv)) hV (by rw [hrel]; exact z_rl0) hG hMb hS (fun q h1 _ => hS.2.1 q h1 (Nat.not_le.mpr h1)) hl.1 hcat ?_ (fun v out ρ g' H1 locs1 ho oE oS ov oV oH oX oz oq oSS => ?_)
  · rw [hst, hea, zea_vo]
    simp
  · obtain ⟨q, hq, -, hv⟩ := z_one1 hout ho ov
    rw [hv]
    exact k out q ρ g' H1 locs1 ho hq oE oV (zH_kept hH (fun q hq => oq q (zH_lt hH hq) (fun z => hLM q hq z))) oX oH oSS
theorem nmC.keep {h' : yH} (hN : nmC η adK L Θ h) (e : ∀ k, h' 2 k = h 2 k) : nmC η adK L Θ h' := ⟨hN.1, hN.2.1, hN.2.2.1, hN.2.2.2.1, fun k hk w => hN.2.2.2.2 k hk (by rw [← e]; exact w)⟩
/-- a call of the class that leaves what is told and the images -/
theorem lwCp {C : zCT} {As : List Int} {ivs : List zIV} (X : lwX l p s m meth c b N xs D cy tb adK adV fv) (hM : zMet zkds vwCl zTW zKP l C) (hC : zCV zkds vwCl zTW RL code room_1.frames room_1.locals pc C) (hea : C.2.2.1.1 = zea 65 As.length) (henv : C.2.2.1.2.1 = ([(0, 0), (0, 2147483647)] ++ ivs) ++ []) (hov : C.2.2.1.2.2.2.2.1 = [] ∧ C.2.2.1.2.2.2.2.2 = []) (hiv : ivs.all (fun q => decide (-2147483648 ≤ q.1) && decide (q.2 ≤ 2147483647)) = true) (hAs : zge As ivs) (hout : zone1 C.2.2.2.1 = true) (heff : efC C.2.2.2.2 = true ∧ (F → efS C.2.2.2.2 = true ∧ efW C.2.2.2.2 = true))
    (hI : lwI F s D cy adK qa qr H) (hS : va_S (fun q => s.heap.size ≤ q) s.heap H locs) (hcs : cells ≤ 600000 ∧ slots ≤ 7302250) (hl : lwL ls qa qr i b) (hcat : (rest.map (fun v => v.category)).sum ≤ 8) (hst : st = (As.map (fun x => (.int (Int32.ofInt x) : Value))).reverse ++ (.ref qa :: rest))
    (k : ∀ (x : Int32) (H1 : Heap) (locs1 : List Loc), lwI F s D cy adK qa qr H1 → va_S (fun q => s.heap.size ≤ q) s.heap H1 locs1 → W p l e room_1 s m #[Value.ref b] below meth c H1 locs1 cells slots Q (F0 m (pc + 3) ls (.int x :: rest))) :
    W p l e room_1 s m #[Value.ref b] below meth c H locs cells slots Q (F0 m pc ls st) := by
  obtain ⟨η, ζ, L, M, Θ, Ξ, h, g, hB, hN, hNR, hH, hG, ⟨ea, er⟩, R⟩ := hI
  refine lwC (T := []) (a := 1) X hM hC hea henv hov.2 hiv hAs zg_n hout (by decide) hB hN.1 hN.2.1 hH hG hN.2.2.2.1 (by rw [hov.1]; exact z_ov0) hS hcs hl hcat (by rw [ea]; exact hst) (fun out q ρ h' H1 locs1 ho hq oE oV oH oX oG oS => ?_)
  obtain ⟨R1, e2⟩ := RW.cf hH hN.2.2.2.1 oX heff.1 heff.2 R
  exact k _ H1 locs1 ⟨η, ζ, L, M, Θ, Ξ, h', g, hB, hN.keep e2, hNR, oH, oG, ⟨ea, er⟩, R1⟩ oS
/-- a call of the reference that leaves all that -/
theorem lwRo {C : zCT} {As T : List Int} {ivs Tiv : List zIV} (X : lwX l p s m meth c b N xs D cy tb adK adV fv) (hM : zMet zkdm vwCl zTW zKPr l C) (hC : zCV zkdm vwCl zTW RL code room_1.frames room_1.locals pc C) (hea : C.2.2.1.1 = zea 37 As.length) (henv : C.2.2.1.2.1 = ([(0, 0), (0, 2147483647)] ++ ivs) ++ Tiv) (hrel : C.2.2.1.2.2.2.2.2 = []) (hiv : ivs.all (fun q => decide (-2147483648 ≤ q.1) && decide (q.2 ≤ 2147483647)) = true) (hAs : zge As ivs) (hT : zge T Tiv) (hout : zone1 C.2.2.2.1 = true) (heff : efR C.2.2.2.2 = true)
    (hB : lwB s L M) (hN : nmC η adK L Θ h) (hNR : nmR Ξ) (hH : zH η zkds D vwCl cy L Θ h H) (hG : zH ζ zkdm D vwCl cy M Ξ g H) (hqq : η.1 1 = qa ∧ ζ.1 35 = qr) (R : RW F h g) (hV : zgv Ξ g (([0, ((35 : Nat) : Int)] ++ As) ++ T) C.2.2.1.2.2.2.2.1)
    (hS : va_S (fun q => s.heap.size ≤ q) s.heap H locs) (hcs : cells ≤ 600000 ∧ slots ≤ 7302250) (hl : lwL ls qa qr i b) (hcat : (rest.map (fun v => v.category)).sum ≤ 8) (hst : st = (As.map (fun x => (.int (Int32.ofInt x) : Value))).reverse ++ (.ref qr :: rest))
    (k : ∀ (x : Int32) (H1 : Heap) (locs1 : List Loc), lwI F s D cy adK qa qr H1 → va_S (fun q => s.heap.size ≤ q) s.heap H1 locs1 → W p l e room_1 s m #[Value.ref b] below meth c H1 locs1 cells slots Q (F0 m (pc + 3) ls (.int x :: rest))) :
    W p l e room_1 s m #[Value.ref b] below meth c H locs cells slots Q (F0 m pc ls st) := by
  refine lwR (r := 35) X hM hC hea henv hrel hiv hAs hT hout (by decide) hB hH hG hNR.1 hV hS hcs hl hcat (by rw [hqq.2]; exact hst) (fun out q ρ g' H1 locs1 ho hq oE oV oH oX oG oS => ?_)
  obtain ⟨-, bm, bl, -⟩ := cT_b hH hN.2.2.2.1 R.1
  exact k _ H1 locs1 ⟨η, ζ, L, M, Θ, Ξ, h, g', hB, hN, hNR, oH, oG, hqq, RW.rf hG hNR oX heff (rP_of oG hNR).1 bl bm.2 R⟩ oS
theorem lwRp {C : zCT} {As : List Int} {ivs : List zIV} (X : lwX l p s m meth c b N xs D cy tb adK adV fv) (hM : zMet zkdm vwCl zTW zKPr l C) (hC : zCV zkdm vwCl zTW RL code room_1.frames room_1.locals pc C) (hea : C.2.2.1.1 = zea 37 As.length) (henv : C.2.2.1.2.1 = ([(0, 0), (0, 2147483647)] ++ ivs) ++ []) (hov : C.2.2.1.2.2.2.2.1 = [] ∧ C.2.2.1.2.2.2.2.2 = []) (hiv : ivs.all (fun q => decide (-2147483648 ≤ q.1) && decide (q.2 ≤ 2147483647)) = true) (hAs : zge As ivs) (hout : zone1 C.2.2.2.1 = true) (heff : efR C.2.2.2.2 = true)
    (hI : lwI F s D cy adK qa qr H) (hS : va_S (fun q => s.heap.size ≤ q) s.heap H locs) (hcs : cells ≤ 600000 ∧ slots ≤ 7302250) (hl : lwL ls qa qr i b) (hcat : (rest.map (fun v => v.category)).sum ≤ 8) (hst : st = (As.map (fun x => (.int (Int32.ofInt x) : Value))).reverse ++ (.ref qr :: rest))
    (k : ∀ (x : Int32) (H1 : Heap) (locs1 : List Loc), lwI F s D cy adK qa qr H1 → va_S (fun q => s.heap.size ≤ q) s.heap H1 locs1 → W p l e room_1 s m #[Value.ref b] below meth c H1 locs1 cells slots Q (F0 m (pc + 3) ls (.int x :: rest))) :
    W p l e room_1 s m #[Value.ref b] below meth c H locs cells slots Q (F0 m pc ls st) := by
  obtain ⟨η, ζ, L, M, Θ, Ξ, h, g, hB, hN, hNR, hH, hG, hqq, R⟩ := hI
  exact lwRo (T := []) X hM hC hea henv hov.2 hiv hAs zg_n hout heff hB hN hNR hH hG hqq R (by rw [hov.1]; exact z_ov0) hS hcs hl hcat hst k
/-- what a call by a sea must know of the reference -/
def sOv (n : Nat) : List zOV := [((35, 1), 5, (6, n, 0)), ((4, n), 0, (0, n + 1, 0)), ((4, n), 1, (0, n + 2, 0)), ((4, n), 2, (0, n + 3, 0)), ((35, 1), 6, (7, n + 4, 0)), ((5, n + 4), 0, (0, n + 5, 0)), ((5, n + 4), 4, (0, n + 6, 0)), ((5, n + 4), 50, (0, n + 7, 0)), ((5, n + 4), 54, (0, n + 8, 0))]
def sTv (g : Nat → Nat → Int) (r : Nat) : List Int := [g r 5, rMn g r 0, rMn g r 1, rMn g r 2, g r 6, rSe g r 0, rSe g r 4, rSe g r 50, rSe g r 54]
theorem z_tl {r : Nat} {As T : List Int} {j : Nat} : (([0, (r : Int)] ++ As) ++ T).getD (2 + As.length + j) 0 = T.getD j 0 := by
  have := z_gr2 (σ := [0, (r : Int)] ++ As) (τ := T) (i := j)
  rw [List.length_append] at this
  exact this
theorem sOv_ok {r : Nat} {As : List Int} (hG : zH ζ zkdm D vwCl cy M Ξ g H) (hr : Ξ r = some 35) {T0 : List Int} : zgv Ξ g (([0, (r : Int)] ++ As) ++ (sTv g r ++ T0)) (sOv (2 + As.length)) := by
  have p5 := rP5 hG hr
  have p6 := rP6 hG hr
  have tl : ∀ j : Nat, j < 9 → (([0, (r : Int)] ++ As) ++ (sTv g r ++ T0)).getD (2 + As.length + j) 0 = (sTv g r).getD j 0 := fun j hj => by rw [z_tl, z_gd (show j < (sTv g r).length from hj)]
  have e1 : (([0, (r : Int)] ++ As) ++ (sTv g r ++ T0)).getD 1 0 = (r : Int) := by simp
  have ln : ∀ j : Nat, j < 9 → 2 + As.length + j < (([0, (r : Int)] ++ As) ++ (sTv g r ++ T0)).length := fun j hj => by
    rw [List.length_append, List.length_append, List.length_append]
    show _ < 2 + As.length + (9 + T0.length)
    omega
  have t0 := tl 0 (by decide)
  have t4 := tl 4 (by decide)
  rw [Nat.add_zero] at t0
  have i32 : ∀ {A B x : Int}, A ≤ x ∧ x ≤ B → -2147483648 ≤ A → B ≤ 2147483647 → zok Ξ 0 x := fun h h1 h2 => ⟨by omega, by omega⟩
  refine z_ov1 (by simp) (by have := ln 0 (by decide); omega) (by rw [e1]; exact Int.natCast_nonneg _) (by rw [e1, Int.toNat_natCast]; exact hr) (by rw [e1, t0, Int.toNat_natCast]; rfl) (by rw [t0]; exact Or.inr p5) ?_
  refine z_ov1 (by have := ln 0 (by decide); omega) (ln 1 (by decide)) (by rw [t0]; exact p5.1) (by rw [t0]; exact p5.2) (by rw [t0, tl 1 (by decide)]; rfl) (by rw [tl 1 (by decide)]; exact i32 (rBm hG hr (k := 0) (by decide)) (by decide) (by decide)) ?_
  refine z_ov1 (by have := ln 0 (by decide); omega) (ln 2 (by decide)) (by rw [t0]; exact p5.1) (by rw [t0]; exact p5.2) (by rw [t0, tl 2 (by decide)]; rfl) (by rw [tl 2 (by decide)]; exact i32 (rBm hG hr (k := 1) (by decide)) (by decide) (by decide)) ?_
  refine z_ov1 (by have := ln 0 (by decide); omega) (ln 3 (by decide)) (by rw [t0]; exact p5.1) (by rw [t0]; exact p5.2) (by rw [t0, tl 3 (by decide)]; rfl) (by rw [tl 3 (by decide)]; exact i32 (rBm hG hr (k := 2) (by decide)) (by decide) (by decide)) ?_
  refine z_ov1 (by simp) (ln 4 (by decide)) (by rw [e1]; exact Int.natCast_nonneg _) (by rw [e1, Int.toNat_natCast]; exact hr) (by rw [e1, t4, Int.toNat_natCast]; rfl) (by rw [t4]; exact Or.inr p6) ?_
  refine z_ov1 (ln 4 (by decide)) (ln 5 (by decide)) (by rw [t4]; exact p6.1) (by rw [t4]; exact p6.2) (by rw [t4, tl 5 (by decide)]; rfl) (by rw [tl 5 (by decide)]; exact i32 (rBe0 hG hr (k := 0) (by decide)) (by decide) (by decide)) ?_
  refine z_ov1 (ln 4 (by decide)) (ln 6 (by decide)) (by rw [t4]; exact p6.1) (by rw [t4]; exact p6.2) (by rw [t4, tl 6 (by decide)]; rfl) (by rw [tl 6 (by decide)]; exact i32 (rBe4 hG hr (k := 4) (by decide)) (by decide) (by decide)) ?_
  refine z_ov1 (ln 4 (by decide)) (ln 7 (by decide)) (by rw [t4]; exact p6.1) (by rw [t4]; exact p6.2) (by rw [t4, tl 7 (by decide)]; rfl) (by rw [tl 7 (by decide)]; exact i32 (rBe0 hG hr (k := 50) (by decide)) (by decide) (by decide)) ?_
  exact z_ov1 (ln 4 (by decide)) (ln 8 (by decide)) (by rw [t4]; exact p6.1) (by rw [t4]; exact p6.2) (by rw [t4, tl 8 (by decide)]; rfl) (by rw [tl 8 (by decide)]; exact i32 (rBe4 hG hr (k := 54) (by decide)) (by decide) (by decide)) z_ov0
/-- a contract by a sea -/
def sCk (C : zCT) (n : Nat) (q : zIV) (rv : List zIV) (m0 s0 s4 s5 s9 : zIV) : Prop := C.2.2.1.1 = zea 37 n ∧ C.2.2.1.2.1 = ([(0, 0), (0, 2147483647)] ++ (q :: rv)) ++ [(0, 2147483647), m0, (0, 2), (0, 2), (0, 2147483647), s0, s4, s5, s9] ∧ C.2.2.1.2.2.2.2.2 = [] ∧ C.2.2.1.2.2.2.2.1 = sOv (2 + n) ∧ zone1 C.2.2.2.1 = true ∧ efR C.2.2.2.2 = true
theorem lwRs {C1 C2 C3 C4 C5 C6 : zCT} {sea : Int} {Rs : List Int} {rv : List zIV} (X : lwX l p s m meth c b N xs D cy tb adK adV fv) (hM : zMet zkdm vwCl zTW zKPr l C1 ∧ zMet zkdm vwCl zTW zKPr l C2 ∧ zMet zkdm vwCl zTW zKPr l C3 ∧ zMet zkdm vwCl zTW zKPr l C4 ∧ zMet zkdm vwCl zTW zKPr l C5 ∧ zMet zkdm vwCl zTW zKPr l C6) (hC : zCV zkdm vwCl zTW RL code room_1.frames room_1.locals pc C1 ∧ zCV zkdm vwCl zTW RL code room_1.frames room_1.locals pc C2 ∧ zCV zkdm vwCl zTW RL code room_1.frames room_1.locals pc C3 ∧ zCV zkdm vwCl zTW RL code room_1.frames room_1.locals pc C4 ∧ zCV zkdm vwCl zTW RL code room_1.frames room_1.locals pc C5 ∧ zCV zkdm vwCl zTW RL code room_1.frames room_1.locals pc C6)
    (k1 : sCk C1 (Rs.length + 1) (0, 0) rv (1, 2) (2, 8) (1, 9) (0, 8) (0, 9)) (k2 : sCk C2 (Rs.length + 1) (1, 1) rv (2, 2) (0, 8) (0, 9) (2, 8) (1, 9)) (k3 : sCk C3 (Rs.length + 1) (-2147483648, -1) rv (0, 2) (0, 8) (0, 9) (0, 8) (0, 9)) (k4 : sCk C4 (Rs.length + 1) (2, 2147483647) rv (0, 2) (0, 8) (0, 9) (0, 8) (0, 9)) (k5 : sCk C5 (Rs.length + 1) (0, 0) rv (0, 0) (0, 8) (0, 9) (0, 8) (0, 9)) (k6 : sCk C6 (Rs.length + 1) (1, 1) rv (0, 1) (0, 8) (0, 9) (0, 8) (0, 9))
    (hiv : rv.all (fun q => decide (-2147483648 ≤ q.1) && decide (q.2 ≤ 2147483647)) = true) (hsea : -2147483648 ≤ sea ∧ sea ≤ 2147483647) (hAs : zge Rs rv) (hI : lwI F s D cy adK qa qr H)
    (hS : va_S (fun q => s.heap.size ≤ q) s.heap H locs) (hcs : cells ≤ 600000 ∧ slots ≤ 7302250) (hl : lwL ls qa qr i b) (hcat : (rest.map (fun v => v.category)).sum ≤ 8) (hst : st = ((sea :: Rs).map (fun x => (.int (Int32.ofInt x) : Value))).reverse ++ (.ref qr :: rest))
    (k : ∀ (x : Int32) (H1 : Heap) (locs1 : List Loc), lwI F s D cy adK qa qr H1 → va_S (fun q => s.heap.size ≤ q) s.heap H1 locs1 → W p l e room_1 s m #[Value.ref b] below meth c H1 locs1 cells slots Q (F0 m (pc + 3) ls (.int x :: rest))) :
    W p l e room_1 s m #[Value.ref b] below meth c H locs cells slots Q (F0 m pc ls st) := by
  obtain ⟨η, ζ, L, M, Θ, Ξ, h, g, hB, hN, hNR, hH, hG, hqq, R⟩ := hI
  have hr := hNR.1
  obtain ⟨j1, j2⟩ := RR.J hG hNR R.1
  have p5 := rP5 hG hr
  have p6 := rP6 hG hr
  have u5 : g 35 5 ≤ 2147483647 := (zH_in hG hr zkm_35 (j := 5) (by decide +kernel)).2.2
  have u6 : g 35 6 ≤ 2147483647 := (zH_in hG hr zkm_35 (j := 6) (by decide +kernel)).2.2
  have m0 := rBm hG hr (k := 0) (by decide)
  have m1 := rBm hG hr (k := 1) (by decide)
  have m2 := rBm hG hr (k := 2) (by decide)
  have s0 := rBe0 hG hr (k := 0) (by decide)
  have s5 := rBe0 hG hr (k := 50) (by decide)
  have s4 := rBe4 hG hr (k := 4) (by decide)
  have s9 := rBe4 hG hr (k := 54) (by decide)
  have go : ∀ {C : zCT} {q n0 t0 t4 t5 t9 : zIV}, zMet zkdm vwCl zTW zKPr l C → zCV zkdm vwCl zTW RL code room_1.frames room_1.locals pc C → sCk C (Rs.length + 1) q rv n0 t0 t4 t5 t9 → -2147483648 ≤ q.1 → q.2 ≤ 2147483647 → q.1 ≤ sea ∧ sea ≤ q.2 → n0.1 ≤ rMn g 35 0 ∧ rMn g 35 0 ≤ n0.2 → t0.1 ≤ rSe g 35 0 ∧ rSe g 35 0 ≤ t0.2 → t4.1 ≤ rSe g 35 4 ∧ rSe g 35 4 ≤ t4.2 → t5.1 ≤ rSe g 35 50 ∧ rSe g 35 50 ≤ t5.2 → t9.1 ≤ rSe g 35 54 ∧ rSe g 35 54 ≤ t9.2 →
      W p l e room_1 s m #[Value.ref b] below meth c H locs cells slots Q (F0 m pc ls st) := by
    intro C q n0 t0 t4 t5 t9 hM hC ⟨c1, c2, c3, c4, c5, c6⟩ q1 q2 hq hn h0 h4 h5 h9
    refine lwRo (T := sTv g 35 ++ []) (As := sea :: Rs) X hM hC c1 c2 c3 (by simp only [List.all_cons, hiv, Bool.and_true, Bool.and_eq_true, decide_eq_true_eq]; exact ⟨q1, q2⟩) (zg_c hq.1 hq.2 hAs) ?_ c5 c6 hB hN hNR hH hG hqq R (by rw [c4]; exact sOv_ok (As := sea :: Rs) hG hr) hS hcs hl hcat hst k
    rw [List.append_nil]
    exact zg_c p5.1 u5 (zg_c hn.1 hn.2 (zg_c m1.1 m1.2 (zg_c m2.1 m2.2 (zg_c p6.1 u6 (zg_c h0.1 h0.2 (zg_c h4.1 h4.2 (zg_c h5.1 h5.2 (zg_c h9.1 h9.2 zg_n))))))))
  obtain ⟨M1, M2, M3, M4, M5, M6⟩ := hM
  obtain ⟨V1, V2, V3, V4, V5, V6⟩ := hC
  rcases (show sea < 0 ∨ sea = 0 ∨ sea = 1 ∨ 2 ≤ sea by omega) with hc | hc | hc | hc
  · exact go M3 V3 k3 (by decide) (by decide) ⟨hsea.1, by show sea ≤ -1; omega⟩ m0 s0 s4 s5 s9
  · by_cases hm : 0 < rMn g 35 0
    · obtain ⟨j3, j4⟩ := j1 hm
      exact go M1 V1 k1 (by decide) (by decide) ⟨by show 0 ≤ sea; omega, by show sea ≤ 0; omega⟩ ⟨by show 1 ≤ rMn g 35 0; omega, m0.2⟩ ⟨j3, s0.2⟩ ⟨j4, s4.2⟩ s5 s9
    · exact go M5 V5 k5 (by decide) (by decide) ⟨by show 0 ≤ sea; omega, by show sea ≤ 0; omega⟩ ⟨m0.1, by show rMn g 35 0 ≤ 0; omega⟩ s0 s4 s5 s9
  · by_cases hm : 1 < rMn g 35 0
    · obtain ⟨j3, j4⟩ := j2 hm
      exact go M2 V2 k2 (by decide) (by decide) ⟨by show 1 ≤ sea; omega, by show sea ≤ 1; omega⟩ ⟨by show 2 ≤ rMn g 35 0; omega, m0.2⟩ s0 s4 ⟨j3, s5.2⟩ ⟨j4, s9.2⟩
    · exact go M6 V6 k6 (by decide) (by decide) ⟨by show 1 ≤ sea; omega, by show sea ≤ 1; omega⟩ ⟨m0.1, by show rMn g 35 0 ≤ 1; omega⟩ s0 s4 s5 s9
  · exact go M4 V4 k4 (by decide) (by decide) ⟨by show 2 ≤ sea; omega, hsea.2⟩ m0 s0 s4 s5 s9
/-! calls of methods as functions -/
section LWY
variable {kds : List zKD} {cl : List vw_C} {nL : Nat} {R : Room} {args : Array Value} {cc : ByteArray} {TW Ts : List Cond} {own : String} {KP : zKPt} {tyf : (Nat → ClassId) → List (ClassId × FieldType)}
theorem lw_callY (hKP : zKPok cl tyf KP) (hg : zgoodW TW) {w0 : Cond} (hTs : Ts = w0 :: TW) {y : yY} {fr' lo' : Nat} {tags : List Nat} {B : yB} (hM : yMet kds cl TW KP l y fr' lo' tags B) (hnd : L.Nodup) (S : CallFix p m c cc nL s args Ts own) (hK : KP η D cy L Θ s) (hC : yCV kds cl TW own cc R.frames R.locals pc y fr' lo' tags) (hcs : cells ≤ R.cells ∧ slots ≤ R.slots)
    {vs : List yV} {st0 : List Value} {A : Nat → Prop} {Qr : yQt} (ht : vs.map Prod.fst = tags) (hA : ∀ a ∈ vs, yok Θ a) (hB : B Θ (vs.map Prod.snd) h Qr) (hH : zH η kds D cl cy L Θ h H) (hLA : ∀ q ∈ L, A q) (hS : va_S A s.heap H locs) (hq : ∀ q : Nat, q < s.heap.size → q ∉ L → H[q]? = s.heap[q]?) (hsz : ls.size = nL) (hcat : (rest.map (fun v => v.category)).sum ≤ 8) (hst : st0 = (vs.map (yvo η)).reverse ++ rest)
    (k : ∀ (a : yV) (h' : Nat → Nat → Int) (H1 : Heap) (locs1 : List Loc), Qr a h' → yok Θ a → zH η kds D cl cy L Θ h' H1 → H.size ≤ H1.size → (∀ q : Nat, q < H.size → q ∉ L → H1[q]? = H[q]?) → va_S A s.heap H1 locs1 → W p l e R s m args below meth c H1 locs1 cells slots Q (F0 m (pc + 3) ls ((if y.2.2.2.isNone = true then (none : Option Value) else some (yvo η a)).toList ++ rest))) :
    W p l e R s m args below meth c H locs cells slots Q (F0 m pc ls st0) := by
  subst hst
  have hr : va_Run p l e R s m args below meth c H locs cells slots 0 0 (F0 m pc ls ((vs.map (yvo η)).reverse ++ rest)) rest (yQ η kds D cl cy L Θ y.2.2.2.isNone Qr (vs.map (yvo η)).toArray) (fun q => q ∈ L) := by
    obtain ⟨idx, hd, m1, m2, m3, m4, m5, m6, m7, m8, m9, kk, ts, K, T, N', et, eK, eK0, eC⟩ := hC
    have hts : ∀ w ∈ TW, w.before args s = true := fun w hw => S.2.2.2.2 w (by rw [hTs]; exact List.mem_cons_of_mem _ hw)
    have hMM := hM η D cy L Θ h vs Qr hnd ht hA hB
    cases vs with
    | nil => rw [et] at ht; cases ht
    | cons r ea =>
      have hr1 : r.1 = kk + 100002 := by
        rw [et] at ht
        simp only [List.map_cons, List.cons.injEq] at ht
        exact ht.1
      obtain ⟨a1, Θa, ea1⟩ := y_ref (η := η) (hA r List.mem_cons_self) hr1
      obtain ⟨q0, hq0⟩ := zH_get hH Θa eK (by omega)
      rw [zE_o eK0] at hq0
      have hKa := (hKP.1 _ _ _ _ _ _ hK).1
      have hrec := va_recv hKa hH.1 eC hq0
      rw [List.map_cons, ea1] at hMM ⊢
      have hlen : ea.length = tags.length - 1 := by rw [← ht]; simp
      refine va_runV (C := y.1.cls) (n := tags.length - 1) (As := ea.map (yvo η)) (bytes := y.2.1) (maxL := y.2.2.1) (ret := y.2.2.2) S hMM ⟨callB_of _ S.2.2.2.2 (by rw [hTs]; exact z_good hg m5) rfl rfl rfl (hts _ m4) (hts _ m1) ⟨m6.1, m6.2, m7⟩ ⟨m8, m9⟩, hts _ m2, hts _ m3⟩ ⟨z_blind hKP, hrec, fun U hU hW => ⟨rfl, by rw [hU]; exact hH, ?_⟩⟩ rfl (by simpa using hlen) hsz (by simp) (by simpa using hcat) hd hcs
      exact hKP.2.1 _ _ _ _ _ s U hK hW (by rw [hU]; exact hS.1) (fun q h1 h2 => by rw [hU]; exact hq q h1 h2)
  intro T hT X
  obtain ⟨v, st₀, t, T', L', hh0, X', hL', e1, e2, ⟨v', a, h', hv, hv2, oa, oq, oH, oF⟩, stp⟩ := hr T hT X
  cases hv
  obtain ⟨f1, f2⟩ := oF
  rw [hh0] at f1 f2
  have hS1 : va_S A s.heap t.heap (locs ++ L') := by
    refine ⟨Nat.le_trans hS.1 f1, fun q hq1 hq2 => ?_, fun q hq1 => ?_⟩
    · rw [f2 q (Nat.lt_of_lt_of_le hq1 hS.1) (fun z => hq2 (hLA q z))]
      exact hS.2.1 q hq1 hq2
    · rcases List.mem_append.mp hq1 with h1 | h1
      · exact hS.2.2 q h1
      · exact hLA _ (hL' q h1)
  have w := k a h' t.heap (locs ++ L') oq oa oH f1 f2 hS1
  rw [← hv2] at w
  obtain ⟨t2, q1, q2⟩ := w T' e1 X'
  exact ⟨t2, stp t2 q1, q2⟩
end LWY
/-- what a function's contract says of one value -/
theorem yF_at {t n : Nat} {f : yFn} {Θ : Nat → Option Nat} {ys : List Int} {h h2 : yH} {v : Int} (e : f n ys h = some (v, h2)) : yF t f Θ ys h (fun a h' => a = (t, v) ∧ h' = h2) := ⟨n, v, h2, e, rfl, rfl⟩
def yvs1 (a : Nat) (t : Nat) (As : List Int) : List yV := (t, (a : Int)) :: As.map (fun x => (0, x))
theorem yvs1_ok {a kk : Nat} {As : List Int} (ha : Θ a = some kk) (hA : ∀ x ∈ As, -2147483648 ≤ x ∧ x ≤ 2147483647) : ∀ v ∈ yvs1 a (kk + 100002) As, yok Θ v := by
  intro v hv
  rcases List.mem_cons.mp hv with rfl | hv
  · unfold yok
    rw [if_neg (by simp only; omega)]
    refine ⟨by simp only; omega, ?_⟩
    simp only [Int.toNat_natCast]
    rw [ha]
    exact congrArg some (by omega)
  · obtain ⟨x, hx, rfl⟩ := List.mem_map.mp hv
    exact y_i (hA x hx).1 (hA x hx).2
theorem yvs1_vo {a kk : Nat} {As : List Int} : (yvs1 a (kk + 100002) As).map (yvo η) = .ref (η.1 a) :: As.map (fun x => .int (Int32.ofInt x)) := by
  unfold yvs1
  rw [List.map_cons, List.map_map]
  have e1 : yvo η (kk + 100002, (a : Int)) = .ref (η.1 a) := by
    show zdec η ((kk + 100000) + 2) ((a : Int)) = _
    rw [z_dr]
  rw [e1]
  rfl
theorem yvs1_snd {a t : Nat} {As : List Int} : (yvs1 a t As).map Prod.snd = (a : Int) :: As := by
  unfold yvs1
  rw [List.map_cons, List.map_map]
  congr 1
  exact List.map_id' As
theorem yvs1_fst {a t : Nat} {As : List Int} : (yvs1 a t As).map Prod.fst = t :: List.replicate As.length 0 := by
  unfold yvs1
  rw [List.map_cons, List.map_map]
  congr 1
  exact List.map_const'
/-- a call of the class, as a function -/
theorem lwCf {y : yY} {fr' lo' n : Nat} {f : yFn} {As : List Int} {v : Int} {h2 : yH} (X : lwX l p s m meth c b N xs D cy tb adK adV fv) (hM : yMet zkds vwCl zTW zKP l y fr' lo' (100065 :: List.replicate As.length 0) (yF 0 f)) (hC : yCV zkds vwCl zTW RL code room_1.frames room_1.locals pc y fr' lo' (100065 :: List.replicate As.length 0)) (hret : y.2.2.2.isNone = false) (hAs : ∀ x ∈ As, -2147483648 ≤ x ∧ x ≤ 2147483647)
    (hB : lwB s L M) (hN : nmC η adK L Θ h) (hH : zH η zkds D vwCl cy L Θ h H) (hG : zH ζ zkdm D vwCl cy M Ξ g H) (ea : η.1 1 = qa) (hf : f n (1 :: As) h = some (v, h2))
    (hS : va_S (fun q => s.heap.size ≤ q) s.heap H locs) (hcs : cells ≤ 600000 ∧ slots ≤ 7302250) (hl : lwL ls qa qr i b) (hcat : (rest.map (fun v => v.category)).sum ≤ 8) (hst : st = (As.map (fun x => (.int (Int32.ofInt x) : Value))).reverse ++ (.ref qa :: rest))
    (k : ∀ (H1 : Heap) (locs1 : List Loc), zH η zkds D vwCl cy L Θ h2 H1 → zH ζ zkdm D vwCl cy M Ξ g H1 → va_S (fun q => s.heap.size ≤ q) s.heap H1 locs1 → W p l e room_1 s m #[Value.ref b] below meth c H1 locs1 cells slots Q (F0 m (pc + 3) ls (.int (Int32.ofInt v) :: rest))) :
    W p l e room_1 s m #[Value.ref b] below meth c H locs cells slots Q (F0 m pc ls st) := by
  obtain ⟨C0, -, hKW, hZ⟩ := X
  obtain ⟨hLn, hMn, hLM, hLb, hMb⟩ := hB
  have hKP : zKP η D cy L Θ s := ⟨hKW, zST_of hN.2.1 hZ hLb hN.1⟩
  refine lw_callY (vs := yvs1 1 (63 + 100002) As) (Qr := fun a h' => a = (0, v) ∧ h' = h2) zkp_ok zTW_good rfl hM hLn (lw_S C0) hKP hC hcs yvs1_fst (yvs1_ok hN.2.2.2.1 hAs) (by rw [yvs1_snd]; exact yF_at hf) hH hLb hS (fun q h1 _ => hS.2.1 q h1 (Nat.not_le.mpr h1)) hl.1 hcat ?_ (fun a h' H1 locs1 hQ oa oH oz oq oS => ?_)
  · rw [hst, yvs1_vo, ea]
    simp
  · obtain ⟨rfl, rfl⟩ := hQ
    rw [hret]
    exact k H1 locs1 oH (zH_kept hG (fun q hq => oq q (zH_lt hG hq) (fun z => hLM q z hq))) oS
/-- a call of the reference, as a function -/
theorem lwRf {y : yY} {fr' lo' n : Nat} {f : yFn} {As : List Int} {v : Int} {g2 : yH} (X : lwX l p s m meth c b N xs D cy tb adK adV fv) (hM : yMet zkdm vwCl zTW zKPr l y fr' lo' (100037 :: List.replicate As.length 0) (yF 0 f)) (hC : yCV zkdm vwCl zTW RL code room_1.frames room_1.locals pc y fr' lo' (100037 :: List.replicate As.length 0)) (hret : y.2.2.2.isNone = false) (hAs : ∀ x ∈ As, -2147483648 ≤ x ∧ x ≤ 2147483647)
    (hB : lwB s L M) (hNR : nmR Ξ) (hH : zH η zkds D vwCl cy L Θ h H) (hG : zH ζ zkdm D vwCl cy M Ξ g H) (er : ζ.1 35 = qr) (hf : f n (35 :: As) g = some (v, g2))
    (hS : va_S (fun q => s.heap.size ≤ q) s.heap H locs) (hcs : cells ≤ 600000 ∧ slots ≤ 7302250) (hl : lwL ls qa qr i b) (hcat : (rest.map (fun v => v.category)).sum ≤ 8) (hst : st = (As.map (fun x => (.int (Int32.ofInt x) : Value))).reverse ++ (.ref qr :: rest))
    (k : ∀ (H1 : Heap) (locs1 : List Loc), zH η zkds D vwCl cy L Θ h H1 → zH ζ zkdm D vwCl cy M Ξ g2 H1 → va_S (fun q => s.heap.size ≤ q) s.heap H1 locs1 → W p l e room_1 s m #[Value.ref b] below meth c H1 locs1 cells slots Q (F0 m (pc + 3) ls (.int (Int32.ofInt v) :: rest))) :
    W p l e room_1 s m #[Value.ref b] below meth c H locs cells slots Q (F0 m pc ls st) := by
  obtain ⟨C0, -, hKW, hZ⟩ := X
  obtain ⟨hLn, hMn, hLM, hLb, hMb⟩ := hB
  refine lw_callY (vs := yvs1 35 (35 + 100002) As) (Qr := fun a h' => a = (0, v) ∧ h' = g2) zkpr_ok zTW_good rfl hM hMn (lw_S C0) (show zKPr ζ D cy M Ξ s from hKW) hC hcs yvs1_fst (yvs1_ok hNR.1 hAs) (by rw [yvs1_snd]; exact yF_at hf) hG hMb hS (fun q h1 _ => hS.2.1 q h1 (Nat.not_le.mpr h1)) hl.1 hcat ?_ (fun a h' H1 locs1 hQ oa oH oz oq oS => ?_)
  · rw [hst, yvs1_vo, er]
    simp
  · obtain ⟨rfl, rfl⟩ := hQ
    rw [hret]
    exact k H1 locs1 (zH_kept hH (fun q hq => oq q (zH_lt hH hq) (fun z => hLM q hq z))) oH oS
end LWG
end
section
variable {η : zRn}
theorem dX11_image_0 : decode cX11_image 0 = .ok (.iload_n 1, 1) := by decide +kernel
theorem dX11_image_1 : decode cX11_image 1 = .ok (.ifCond .lt 8, 3) := by decide +kernel
theorem dX11_image_4 : decode cX11_image 4 = .ok (.iload_n 1, 1) := by decide +kernel
theorem dX11_image_5 : decode cX11_image 5 = .ok (.iconst 3, 1) := by decide +kernel
theorem dX11_image_6 : decode cX11_image 6 = .ok (.if_icmp .lt 5, 3) := by decide +kernel
theorem dX11_image_9 : decode cX11_image 9 = .ok (.iconst 0, 1) := by decide +kernel
theorem dX11_image_10 : decode cX11_image 10 = .ok (.ireturn, 1) := by decide +kernel
theorem dX11_image_11 : decode cX11_image 11 = .ok (.aload_n 0, 1) := by decide +kernel
theorem dX11_image_12 : decode cX11_image 12 = .ok (.getfield 16, 3) := by decide +kernel
theorem dX11_image_15 : decode cX11_image 15 = .ok (.iload_n 1, 1) := by decide +kernel
theorem dX11_image_16 : decode cX11_image 16 = .ok (.aaload, 1) := by decide +kernel
theorem dX11_image_17 : decode cX11_image 17 = .ok (.ifnonnull 16, 3) := by decide +kernel
theorem dX11_image_20 : decode cX11_image 20 = .ok (.aload_n 0, 1) := by decide +kernel
theorem dX11_image_21 : decode cX11_image 21 = .ok (.getfield 16, 3) := by decide +kernel
theorem dX11_image_24 : decode cX11_image 24 = .ok (.iload_n 1, 1) := by decide +kernel
theorem dX11_image_25 : decode cX11_image 25 = .ok (.new 7, 3) := by decide +kernel
theorem dX11_image_28 : decode cX11_image 28 = .ok (.dup, 1) := by decide +kernel
theorem dX11_image_29 : decode cX11_image 29 = .ok (.invokespecial 9, 3) := by decide +kernel
theorem dX11_image_32 : decode cX11_image 32 = .ok (.aastore, 1) := by decide +kernel
theorem dX11_image_33 : decode cX11_image 33 = .ok (.aload_n 0, 1) := by decide +kernel
theorem dX11_image_34 : decode cX11_image 34 = .ok (.getfield 16, 3) := by decide +kernel
theorem dX11_image_37 : decode cX11_image 37 = .ok (.iload_n 1, 1) := by decide +kernel
theorem dX11_image_38 : decode cX11_image 38 = .ok (.aaload, 1) := by decide +kernel
theorem dX11_image_39 : decode cX11_image 39 = .ok (.aload_n 0, 1) := by decide +kernel
theorem dX11_image_40 : decode cX11_image 40 = .ok (.getfield 10, 3) := by decide +kernel
theorem dX11_image_43 : decode cX11_image 43 = .ok (.invokevirtual 382, 3) := by decide +kernel
theorem dX11_image_46 : decode cX11_image 46 = .ok (.iconst 1, 1) := by decide +kernel
theorem dX11_image_47 : decode cX11_image 47 = .ok (.ireturn, 1) := by decide +kernel
/-! image(): made where there is none, then told over -/
section IMG
variable {D : va_G} {cl : List vw_C} {cy : Nat → ClassId} {L : List Nat} {Θ : Nat → Option Nat} {h : Nat → Nat → Int} {H : Heap} {locs : List Loc} {cells slots : Nat}
variable {p : Program} {l : Launch} {e : Env} {R : Room} {s : State} {m : MethodId} {args : Array Value} {below : List Frame} {meth : Method} {c : Code} {Q : State → Prop}
variable {cc : ByteArray} {pc : Nat} {Ts : List Cond} {own : String} {ls : Array Slot} {rest : List Value}
theorem hg_get {kds : List zKD} {tys : List (ClassId × FieldType)} (hexec : p.tables.exec = Jvm.exec) (hb : c.code = cc) (hts : ∀ w ∈ Ts, w.before args s = true) (hown : s.vm.findClass own = some m.cls) (hKa : va_K D cl tys s) {idx ci k kk : Nat} {o : Option FieldType} {a : Nat} {K : zKD} (hF : zFok own Ts cl (idx, ci, k, o)) (hΘ : Θ a = some kk) (hK : kds[kk]? = some K) (hKf : K.1 = 0 ∧ K.2.1 = ci) (hk : k < K.2.2.1) (hH : zH η kds D cl cy L Θ h H) (hdg : decode cc pc = .ok (.getfield idx, 3))
    (w : W p l e R s m args below meth c H locs cells slots Q (F0 m (pc + 3) ls (zdec η (zty K k).1 (h a k) :: rest))) : W p l e R s m args below meth c H locs cells slots Q (F0 m pc ls (.ref (η.1 a) :: rest)) := by
  obtain ⟨C, T, N, e1, e2, e3, e4, -⟩ := hF
  obtain ⟨q0, hq⟩ := zH_get hH hΘ hK (by omega)
  rw [zE_o hKf.1, hKf.2] at hq
  exact va_get (v := zdec η (zty K k).1 (h a k)) hexec hb hts e2 hown hKa hH.1 q0 hq e1 k e3 (hts _ e4) (fun _ x => x) (z_fs hk) hdg w
/-- the array of images is read -/
theorem hg_img (hexec : p.tables.exec = Jvm.exec) (hb : c.code = cc) (hKa : va_K D cl (tyW cy) s) {im : Nat} (him : Θ im = some 62) (hH : zH η zkds D cl cy L Θ h H) {x : Int32} {k : Nat} (hx : x.toInt = (k : Int)) (hk : k < 3) (hdg : decode cc pc = .ok (.aaload, 1))
    (w : W p l e R s m args below meth c H locs cells slots Q (F0 m (pc + 1) ls (va_rf (zrf η (h im k)) :: rest))) : W p l e R s m args below meth c H locs cells slots Q (F0 m pc ls (.int x :: .ref (η.1 im) :: rest)) := by
  obtain ⟨q0, hq⟩ := zH_get hH him zkd_62 (by decide)
  rw [zE_q rfl] at hq
  obtain ⟨v1, v2⟩ := z_vin (i := x) (n := 3) (by omega) (by omega)
  refine va_aldq hexec hb hKa hH.1 q0 6 hq (by rfl) v1 hdg ?_
  have ek : x.toNatClampNeg = k := by rw [v2]; omega
  show W p l e R s m args below meth c H locs cells slots Q (F0 m (pc + 1) ls (va_rf (zrf η (h im x.toNatClampNeg)) :: rest))
  rw [ek]
  exact w
end IMG

theorem zl_img : Cond.methodLink RX11 382 yX9_copyFrom ∈ zTW := zTin 1279 (by decide +kernel) rfl
/-- names of an image's cells -/
def cdIo : List Nat := [3, 4, 5, 6, 7, 20, 21, 22, 23, 24, 25, 26, 27, 30, 31, 32, 33, 34, 35, 36, 37, 8, 40, 41, 42, 50, 51, 52, 9, 60, 61, 62, 63, 64, 70, 71, 72, 73, 74]
def cdI (k i : Nat) : Nat := 1000 * (k + 1) + cdIo.getD i 0
theorem cdI_b {k i : Nat} (hi : i < 39) : 1000 * (k + 1) + 3 ≤ cdI k i ∧ cdI k i ≤ 1000 * (k + 1) + 79 := by
  have key : ∀ i : Fin 39, 3 ≤ cdIo.getD i.1 0 ∧ cdIo.getD i.1 0 ≤ 79 := by decide +kernel
  have := key ⟨i, hi⟩
  simp only at this
  unfold cdI
  omega
theorem cdI_j (k : Nat) : zinj 39 (cdI k) := by
  intro i j hi hj e
  have key : ∀ i j : Fin 39, cdIo.getD i.1 0 = cdIo.getD j.1 0 → i = j := by decide +kernel
  unfold cdI at e
  have := key ⟨i, hi⟩ ⟨j, hj⟩ (by simp only; omega)
  exact congrArg Fin.val this
/-- image k is there as a cell -/
def imC (k : Nat) (h h' : yH) : Prop := (∀ a j, ¬ (1000 * (k + 1) ≤ a ∧ a < 1000 * (k + 2)) → ¬ (a = 2 ∧ j = k) → h' a j = h a j) ∧ h' 2 k = ((1000 * (k + 1) + 3 : Nat) : Int) ∧ cPb (1000 * (k + 1)) h' ∧ h' (1000 * (k + 1) + 4) 1 ≤ 600
def imgO (k : Nat) (η : zRn) (adK : Nat → Nat) (D : va_G) (cy : Nat → ClassId) (L : List Nat) (h : yH) (sz : Nat) (H : Heap) : Prop := ∃ (η' : zRn) (L' : List Nat) (Θ' : Nat → Option Nat) (h' h2 : yH), zH η' zkds D vwCl cy L' Θ' h2 H ∧ L'.Nodup ∧ (∀ q ∈ L', q ∈ L ∨ sz ≤ q) ∧ nmC η' adK L' Θ' h2 ∧ η'.1 1 = η.1 1 ∧ imC k h h' ∧ tcR (1000 * (k + 1)) 0 h' h2
theorem zk_ex {kds : List zKD} {cl : List vw_C} {kk : Nat} {ts tags : List Nat} {C : String} (K : zKD) (q : vw_C) (h1 : tags = (kk + 100002) :: ts) (h2 : kds[kk]? = some K) (h3 : K.1 = 0) (h4 : cl[K.2.1]? = some q) (h5 : q.1 = C) : ∃ (kk : Nat) (ts : List Nat) (K : zKD) (T : u_T) (N : Nat), tags = (kk + 100002) :: ts ∧ kds[kk]? = some K ∧ K.1 = 0 ∧ cl[K.2.1]? = some (C, T, N) := ⟨kk, ts, K, q.2.1, q.2.2, h1, h2, h3, by rw [h4, ← h5]⟩
set_option maxHeartbeats 4000000 in
set_option maxRecDepth 10000 in
theorem img_tl0 (l : Launch) {D : va_G} {cy : Nat → ClassId} {L : List Nat} {Θ : Nat → Option Nat} {h : Nat → Nat → Int} {H : Heap} {locs : List Loc} {cells slots : Nat} {p : Program} {e : Env} {R : Room} {s : State} {m : MethodId} {args : Array Value} {below : List Frame} {meth : Method} {c : Code} {Q : State → Prop} {w0 : Cond} {ls : Array Slot} {A : Nat → Prop} {base : Nat} {tb adK adV : Nat → Nat} {fv : Option Nat} {x : Int32} (S : CallFix p m c cX11_image 2 s args (w0 :: zTW) RX11) (hKW : KW D cy s) (hZ : zS0 base tb adK adV fv s)
    (hH : zH η zkds D vwCl cy L Θ h H) (hnd : L.Nodup) (hLb : ∀ q ∈ L, base ≤ q) (hN : nmC η adK L Θ h) (hP : cP h) (him : h 2 0 = ((1000 * (0 + 1) + 3 : Nat) : Int)) (hPk : cPb (1000 * (0 + 1)) h) (hLA : ∀ q ∈ L, A q) (hS : va_S A s.heap H locs) (hq : ∀ q : Nat, q < s.heap.size → q ∉ L → H[q]? = s.heap[q]?) (hcs : cells ≤ R.cells ∧ slots ≤ R.slots) (hfr : 3 ≤ R.frames) (hlo : 69 ≤ R.locals) (hl : lv_has ls 2 [(0, .ref (η.1 1)), (1, .int x)]) (hxk : x.toInt = ((0 : Nat) : Int))
    (K : ∀ (h' : Nat → Nat → Int) (H1 : Heap) (locs1 : List Loc), zH η zkds D vwCl cy L Θ h' H1 → tcR (1000 * (0 + 1)) 0 h h' → va_S A s.heap H1 locs1 → W p l e R s m args below meth c H1 locs1 cells slots Q (F0 m 46 ls [])) : W p l e R s m args below meth c H locs cells slots Q (F0 m 33 ls []) := by
  obtain ⟨hx, hb, hml, hown, hts⟩ := id S
  have hKa : va_K D vwCl (tyW cy) s := hKW.1
  have ha := hN.2.2.2.1
  obtain ⟨k2, k3, -⟩ := cK_0 hH ha hP
  have kI := cK_im (F := False) (g := h) hH ha hP (show 0 < 3 by decide) him
  have e11 : h 1 1 = ((2 : Nat) : Int) := hP.p (by decide)
  have e10 : h 1 0 = ((3 : Nat) : Int) := hP.p (by decide)
  refine lv_aload_n hx hb dX11_image_33 rfl (lv_at hl 0 rfl) ?_
  refine hg_get hx hb hts hown hKa (zFok_mono (fun w hw => List.mem_cons_of_mem _ hw) zf_RX11_16) ha zkd_63 ⟨rfl, rfl⟩ (by decide) hH dX11_image_34 ?_
  rw [show (zty (0, 11, 7, [(30, 0, 2147483647), (64, 0, 2147483647), (36, 0, 2147483647), (48, 0, 2147483647), (49, 0, 2147483647), (53, 0, 2147483647), (60, 0, 2147483647)]) 1).1 = 62 + 2 from rfl, e11, z_dr]
  refine lv_iload_n hx hb dX11_image_37 rfl (lv_at hl 1 rfl) ?_
  refine hg_img hx hb hKa k2 hH hxk (by decide) dX11_image_38 ?_
  have ei : va_rf (zrf η (h 2 0)) = .ref (η.1 (1000 * (0 + 1) + 3)) := by
    rw [him]
    exact z_dr 0 _
  rw [ei]
  refine lv_aload_n hx hb dX11_image_39 rfl (lv_at hl 0 rfl) ?_
  refine hg_get hx hb hts hown hKa (zFok_mono (fun w hw => List.mem_cons_of_mem _ hw) zf_RX11_10) ha zkd_63 ⟨rfl, rfl⟩ (by decide) hH dX11_image_40 ?_
  rw [show (zty (0, 11, 7, [(30, 0, 2147483647), (64, 0, 2147483647), (36, 0, 2147483647), (48, 0, 2147483647), (49, 0, 2147483647), (53, 0, 2147483647), (60, 0, 2147483647)]) 0).1 = 28 + 2 from rfl, e10, z_dr]
  have hKP : zKP η D cy L Θ s := ⟨hKW, zST_of hN.2.1 hZ hLb hN.1⟩
  obtain ⟨v, h2, e1, r⟩ := tcp_i0 (n := 3) (h := h) (by decide) hPk hP.b (cBb_of hH hP.b k3 (by decide))
  have o1 : yok Θ (100031, ((1000 * (0 + 1) + 3 : Nat) : Int)) := by
    unfold yok
    rw [if_neg (by decide)]
    exact ⟨by simp only; omega, by simp only [Int.toNat_natCast]; exact kI⟩
  have o2 : yok Θ (100030, ((3 : Nat) : Int)) := by
    unfold yok
    rw [if_neg (by decide)]
    exact ⟨by simp only; omega, by simp only [Int.toNat_natCast]; exact k3⟩
  have v1 := (y_ref (η := η) (k := 29) o1 rfl).2.2
  have v2 := (y_ref (η := η) (k := 28) o2 rfl).2.2
  simp only [Int.toNat_natCast] at v1 v2
  refine lw_callY (kds := zkds) (vs := [(100031, ((1000 * (0 + 1) + 3 : Nat) : Int)), (100030, ((3 : Nat) : Int))]) (Qr := fun _ h' => tcR (1000 * (0 + 1)) 0 h h') (rest := []) zkp_ok zTW_good rfl (m_X9_copyFrom_i0 l) hnd S hKP (ycv_of yw_X9_copyFrom 382 dX11_image_43 zl_img rfl (by omega) (show 8 + (3 + 11) + 47 ≤ R.locals by omega) (zk_ex (kk := 29) (ts := [100030]) _ _ rfl (zkK ⟨29, by decide⟩) rfl rfl rfl)) hcs rfl (fun a ha => ?_) ⟨3, v, h2, e1, r⟩ hH hLA hS hq hl.1 (by decide) ?_ (fun a h' H1 locs1 hQ oa oH oz oq oS => ?_)
  · rcases List.mem_cons.mp ha with rfl | ha
    · exact o1
    · rcases List.mem_cons.mp ha with rfl | ha
      · exact o2
      · cases ha
  · simp only [List.map_cons, List.map_nil, v1, v2]
    rfl
  · exact K h' H1 locs1 oH hQ oS
set_option maxHeartbeats 4000000 in
set_option maxRecDepth 10000 in
theorem img_tl1 (l : Launch) {D : va_G} {cy : Nat → ClassId} {L : List Nat} {Θ : Nat → Option Nat} {h : Nat → Nat → Int} {H : Heap} {locs : List Loc} {cells slots : Nat} {p : Program} {e : Env} {R : Room} {s : State} {m : MethodId} {args : Array Value} {below : List Frame} {meth : Method} {c : Code} {Q : State → Prop} {w0 : Cond} {ls : Array Slot} {A : Nat → Prop} {base : Nat} {tb adK adV : Nat → Nat} {fv : Option Nat} {x : Int32} (S : CallFix p m c cX11_image 2 s args (w0 :: zTW) RX11) (hKW : KW D cy s) (hZ : zS0 base tb adK adV fv s)
    (hH : zH η zkds D vwCl cy L Θ h H) (hnd : L.Nodup) (hLb : ∀ q ∈ L, base ≤ q) (hN : nmC η adK L Θ h) (hP : cP h) (him : h 2 1 = ((1000 * (1 + 1) + 3 : Nat) : Int)) (hPk : cPb (1000 * (1 + 1)) h) (hLA : ∀ q ∈ L, A q) (hS : va_S A s.heap H locs) (hq : ∀ q : Nat, q < s.heap.size → q ∉ L → H[q]? = s.heap[q]?) (hcs : cells ≤ R.cells ∧ slots ≤ R.slots) (hfr : 3 ≤ R.frames) (hlo : 69 ≤ R.locals) (hl : lv_has ls 2 [(0, .ref (η.1 1)), (1, .int x)]) (hxk : x.toInt = ((1 : Nat) : Int))
    (K : ∀ (h' : Nat → Nat → Int) (H1 : Heap) (locs1 : List Loc), zH η zkds D vwCl cy L Θ h' H1 → tcR (1000 * (1 + 1)) 0 h h' → va_S A s.heap H1 locs1 → W p l e R s m args below meth c H1 locs1 cells slots Q (F0 m 46 ls [])) : W p l e R s m args below meth c H locs cells slots Q (F0 m 33 ls []) := by
  obtain ⟨hx, hb, hml, hown, hts⟩ := id S
  have hKa : va_K D vwCl (tyW cy) s := hKW.1
  have ha := hN.2.2.2.1
  obtain ⟨k2, k3, -⟩ := cK_0 hH ha hP
  have kI := cK_im (F := False) (g := h) hH ha hP (show 1 < 3 by decide) him
  have e11 : h 1 1 = ((2 : Nat) : Int) := hP.p (by decide)
  have e10 : h 1 0 = ((3 : Nat) : Int) := hP.p (by decide)
  refine lv_aload_n hx hb dX11_image_33 rfl (lv_at hl 0 rfl) ?_
  refine hg_get hx hb hts hown hKa (zFok_mono (fun w hw => List.mem_cons_of_mem _ hw) zf_RX11_16) ha zkd_63 ⟨rfl, rfl⟩ (by decide) hH dX11_image_34 ?_
  rw [show (zty (0, 11, 7, [(30, 0, 2147483647), (64, 0, 2147483647), (36, 0, 2147483647), (48, 0, 2147483647), (49, 0, 2147483647), (53, 0, 2147483647), (60, 0, 2147483647)]) 1).1 = 62 + 2 from rfl, e11, z_dr]
  refine lv_iload_n hx hb dX11_image_37 rfl (lv_at hl 1 rfl) ?_
  refine hg_img hx hb hKa k2 hH hxk (by decide) dX11_image_38 ?_
  have ei : va_rf (zrf η (h 2 1)) = .ref (η.1 (1000 * (1 + 1) + 3)) := by
    rw [him]
    exact z_dr 0 _
  rw [ei]
  refine lv_aload_n hx hb dX11_image_39 rfl (lv_at hl 0 rfl) ?_
  refine hg_get hx hb hts hown hKa (zFok_mono (fun w hw => List.mem_cons_of_mem _ hw) zf_RX11_10) ha zkd_63 ⟨rfl, rfl⟩ (by decide) hH dX11_image_40 ?_
  rw [show (zty (0, 11, 7, [(30, 0, 2147483647), (64, 0, 2147483647), (36, 0, 2147483647), (48, 0, 2147483647), (49, 0, 2147483647), (53, 0, 2147483647), (60, 0, 2147483647)]) 0).1 = 28 + 2 from rfl, e10, z_dr]
  have hKP : zKP η D cy L Θ s := ⟨hKW, zST_of hN.2.1 hZ hLb hN.1⟩
  obtain ⟨v, h2, e1, r⟩ := tcp_i1 (n := 3) (h := h) (by decide) hPk hP.b (cBb_of hH hP.b k3 (by decide))
  have o1 : yok Θ (100032, ((1000 * (1 + 1) + 3 : Nat) : Int)) := by
    unfold yok
    rw [if_neg (by decide)]
    exact ⟨by simp only; omega, by simp only [Int.toNat_natCast]; exact kI⟩
  have o2 : yok Θ (100030, ((3 : Nat) : Int)) := by
    unfold yok
    rw [if_neg (by decide)]
    exact ⟨by simp only; omega, by simp only [Int.toNat_natCast]; exact k3⟩
  have v1 := (y_ref (η := η) (k := 30) o1 rfl).2.2
  have v2 := (y_ref (η := η) (k := 28) o2 rfl).2.2
  simp only [Int.toNat_natCast] at v1 v2
  refine lw_callY (kds := zkds) (vs := [(100032, ((1000 * (1 + 1) + 3 : Nat) : Int)), (100030, ((3 : Nat) : Int))]) (Qr := fun _ h' => tcR (1000 * (1 + 1)) 0 h h') (rest := []) zkp_ok zTW_good rfl (m_X9_copyFrom_i1 l) hnd S hKP (ycv_of yw_X9_copyFrom 382 dX11_image_43 zl_img rfl (by omega) (show 8 + (3 + 11) + 47 ≤ R.locals by omega) (zk_ex (kk := 30) (ts := [100030]) _ _ rfl (zkK ⟨30, by decide⟩) rfl rfl rfl)) hcs rfl (fun a ha => ?_) ⟨3, v, h2, e1, r⟩ hH hLA hS hq hl.1 (by decide) ?_ (fun a h' H1 locs1 hQ oa oH oz oq oS => ?_)
  · rcases List.mem_cons.mp ha with rfl | ha
    · exact o1
    · rcases List.mem_cons.mp ha with rfl | ha
      · exact o2
      · cases ha
  · simp only [List.map_cons, List.map_nil, v1, v2]
    rfl
  · exact K h' H1 locs1 oH hQ oS
set_option maxHeartbeats 4000000 in
set_option maxRecDepth 10000 in
theorem img_tl2 (l : Launch) {D : va_G} {cy : Nat → ClassId} {L : List Nat} {Θ : Nat → Option Nat} {h : Nat → Nat → Int} {H : Heap} {locs : List Loc} {cells slots : Nat} {p : Program} {e : Env} {R : Room} {s : State} {m : MethodId} {args : Array Value} {below : List Frame} {meth : Method} {c : Code} {Q : State → Prop} {w0 : Cond} {ls : Array Slot} {A : Nat → Prop} {base : Nat} {tb adK adV : Nat → Nat} {fv : Option Nat} {x : Int32} (S : CallFix p m c cX11_image 2 s args (w0 :: zTW) RX11) (hKW : KW D cy s) (hZ : zS0 base tb adK adV fv s)
    (hH : zH η zkds D vwCl cy L Θ h H) (hnd : L.Nodup) (hLb : ∀ q ∈ L, base ≤ q) (hN : nmC η adK L Θ h) (hP : cP h) (him : h 2 2 = ((1000 * (2 + 1) + 3 : Nat) : Int)) (hPk : cPb (1000 * (2 + 1)) h) (hLA : ∀ q ∈ L, A q) (hS : va_S A s.heap H locs) (hq : ∀ q : Nat, q < s.heap.size → q ∉ L → H[q]? = s.heap[q]?) (hcs : cells ≤ R.cells ∧ slots ≤ R.slots) (hfr : 3 ≤ R.frames) (hlo : 69 ≤ R.locals) (hl : lv_has ls 2 [(0, .ref (η.1 1)), (1, .int x)]) (hxk : x.toInt = ((2 : Nat) : Int))
    (K : ∀ (h' : Nat → Nat → Int) (H1 : Heap) (locs1 : List Loc), zH η zkds D vwCl cy L Θ h' H1 → tcR (1000 * (2 + 1)) 0 h h' → va_S A s.heap H1 locs1 → W p l e R s m args below meth c H1 locs1 cells slots Q (F0 m 46 ls [])) : W p l e R s m args below meth c H locs cells slots Q (F0 m 33 ls []) := by
  obtain ⟨hx, hb, hml, hown, hts⟩ := id S
  have hKa : va_K D vwCl (tyW cy) s := hKW.1
  have ha := hN.2.2.2.1
  obtain ⟨k2, k3, -⟩ := cK_0 hH ha hP
  have kI := cK_im (F := False) (g := h) hH ha hP (show 2 < 3 by decide) him
  have e11 : h 1 1 = ((2 : Nat) : Int) := hP.p (by decide)
  have e10 : h 1 0 = ((3 : Nat) : Int) := hP.p (by decide)
  refine lv_aload_n hx hb dX11_image_33 rfl (lv_at hl 0 rfl) ?_
  refine hg_get hx hb hts hown hKa (zFok_mono (fun w hw => List.mem_cons_of_mem _ hw) zf_RX11_16) ha zkd_63 ⟨rfl, rfl⟩ (by decide) hH dX11_image_34 ?_
  rw [show (zty (0, 11, 7, [(30, 0, 2147483647), (64, 0, 2147483647), (36, 0, 2147483647), (48, 0, 2147483647), (49, 0, 2147483647), (53, 0, 2147483647), (60, 0, 2147483647)]) 1).1 = 62 + 2 from rfl, e11, z_dr]
  refine lv_iload_n hx hb dX11_image_37 rfl (lv_at hl 1 rfl) ?_
  refine hg_img hx hb hKa k2 hH hxk (by decide) dX11_image_38 ?_
  have ei : va_rf (zrf η (h 2 2)) = .ref (η.1 (1000 * (2 + 1) + 3)) := by
    rw [him]
    exact z_dr 0 _
  rw [ei]
  refine lv_aload_n hx hb dX11_image_39 rfl (lv_at hl 0 rfl) ?_
  refine hg_get hx hb hts hown hKa (zFok_mono (fun w hw => List.mem_cons_of_mem _ hw) zf_RX11_10) ha zkd_63 ⟨rfl, rfl⟩ (by decide) hH dX11_image_40 ?_
  rw [show (zty (0, 11, 7, [(30, 0, 2147483647), (64, 0, 2147483647), (36, 0, 2147483647), (48, 0, 2147483647), (49, 0, 2147483647), (53, 0, 2147483647), (60, 0, 2147483647)]) 0).1 = 28 + 2 from rfl, e10, z_dr]
  have hKP : zKP η D cy L Θ s := ⟨hKW, zST_of hN.2.1 hZ hLb hN.1⟩
  obtain ⟨v, h2, e1, r⟩ := tcp_i2 (n := 3) (h := h) (by decide) hPk hP.b (cBb_of hH hP.b k3 (by decide))
  have o1 : yok Θ (100033, ((1000 * (2 + 1) + 3 : Nat) : Int)) := by
    unfold yok
    rw [if_neg (by decide)]
    exact ⟨by simp only; omega, by simp only [Int.toNat_natCast]; exact kI⟩
  have o2 : yok Θ (100030, ((3 : Nat) : Int)) := by
    unfold yok
    rw [if_neg (by decide)]
    exact ⟨by simp only; omega, by simp only [Int.toNat_natCast]; exact k3⟩
  have v1 := (y_ref (η := η) (k := 31) o1 rfl).2.2
  have v2 := (y_ref (η := η) (k := 28) o2 rfl).2.2
  simp only [Int.toNat_natCast] at v1 v2
  refine lw_callY (kds := zkds) (vs := [(100033, ((1000 * (2 + 1) + 3 : Nat) : Int)), (100030, ((3 : Nat) : Int))]) (Qr := fun _ h' => tcR (1000 * (2 + 1)) 0 h h') (rest := []) zkp_ok zTW_good rfl (m_X9_copyFrom_i2 l) hnd S hKP (ycv_of yw_X9_copyFrom 382 dX11_image_43 zl_img rfl (by omega) (show 8 + (3 + 11) + 47 ≤ R.locals by omega) (zk_ex (kk := 31) (ts := [100030]) _ _ rfl (zkK ⟨31, by decide⟩) rfl rfl rfl)) hcs rfl (fun a ha => ?_) ⟨3, v, h2, e1, r⟩ hH hLA hS hq hl.1 (by decide) ?_ (fun a h' H1 locs1 hQ oa oH oz oq oS => ?_)
  · rcases List.mem_cons.mp ha with rfl | ha
    · exact o1
    · rcases List.mem_cons.mp ha with rfl | ha
      · exact o2
      · cases ha
  · simp only [List.map_cons, List.map_nil, v1, v2]
    rfl
  · exact K h' H1 locs1 oH hQ oS
end
