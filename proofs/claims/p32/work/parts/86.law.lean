/-! THE LAW'S RUN: written by wip/gen/lawrun.py -/
theorem bL_18 : codeZ 186 18 = [.iload 3, .aload 0, .arraylength, .sipush (5), .isub, .if_icmp .gt 1400, .aload 0, .iload 3, .iaload, .sipush (63), .iand, .tableswitch 1394 (0) (37) #[200, 223, 246, 259, 272, 295, 328, 361, 404, 447, 480, 533, 556, 579, 612, 655, 678, 701, 724, 757, 800, 833, 856, 889, 932, 985, 1028, 1051, 1074, 1097, 1130, 1173, 1196, 1219, 1262, 1305, 1358, 1371]] := by decide +kernel
theorem bL_200 : codeZ 186 200 = [.aload 1, .aload 0, .iload 3, .sipush (1), .iadd, .iaload, .invokevirtual 43, .pop, .aload 2, .aload 0, .iload 3, .sipush (1), .iadd, .iaload, .invokevirtual 105, .pop, .goto 1394] := by decide +kernel
theorem bL_223 : codeZ 186 223 = [.aload 1, .aload 0, .iload 3, .sipush (1), .iadd, .iaload, .invokevirtual 44, .pop, .aload 2, .aload 0, .iload 3, .sipush (1), .iadd, .iaload, .invokevirtual 106, .pop, .goto 1394] := by decide +kernel
theorem bL_246 : codeZ 186 246 = [.aload 1, .invokevirtual 45, .pop, .aload 2, .invokevirtual 118, .pop, .goto 1394] := by decide +kernel
theorem bL_259 : codeZ 186 259 = [.aload 1, .invokevirtual 46, .pop, .aload 2, .invokevirtual 119, .pop, .goto 1394] := by decide +kernel
theorem bL_272 : codeZ 186 272 = [.aload 1, .aload 0, .iload 3, .sipush (1), .iadd, .iaload, .invokevirtual 47, .pop, .aload 2, .aload 0, .iload 3, .sipush (1), .iadd, .iaload, .invokevirtual 139, .pop, .goto 1394] := by decide +kernel
theorem bL_295 : codeZ 186 295 = [.aload 1, .aload 0, .iload 3, .sipush (1), .iadd, .iaload, .aload 0, .iload 3, .sipush (2), .iadd, .iaload, .invokevirtual 48, .pop, .aload 2, .aload 0, .iload 3, .sipush (1), .iadd, .iaload, .aload 0, .iload 3, .sipush (2), .iadd, .iaload, .invokevirtual 140, .pop, .goto 1394] := by decide +kernel
theorem bL_328 : codeZ 186 328 = [.aload 1, .aload 0, .iload 3, .sipush (1), .iadd, .iaload, .aload 0, .iload 3, .sipush (2), .iadd, .iaload, .invokevirtual 49, .pop, .aload 2, .aload 0, .iload 3, .sipush (1), .iadd, .iaload, .aload 0, .iload 3, .sipush (2), .iadd, .iaload, .invokevirtual 141, .pop, .goto 1394] := by decide +kernel
theorem bL_361 : codeZ 186 361 = [.aload 1, .aload 0, .iload 3, .sipush (1), .iadd, .iaload, .aload 0, .iload 3, .sipush (2), .iadd, .iaload, .aload 0, .iload 3, .sipush (3), .iadd, .iaload, .invokevirtual 50, .pop, .aload 2, .aload 0, .iload 3, .sipush (1), .iadd, .iaload, .aload 0, .iload 3, .sipush (2), .iadd, .iaload, .aload 0, .iload 3, .sipush (3), .iadd, .iaload, .invokevirtual 143, .pop, .goto 1394] := by decide +kernel
theorem bL_404 : codeZ 186 404 = [.aload 1, .aload 0, .iload 3, .sipush (1), .iadd, .iaload, .aload 0, .iload 3, .sipush (2), .iadd, .iaload, .aload 0, .iload 3, .sipush (3), .iadd, .iaload, .invokevirtual 51, .pop, .aload 2, .aload 0, .iload 3, .sipush (1), .iadd, .iaload, .aload 0, .iload 3, .sipush (2), .iadd, .iaload, .aload 0, .iload 3, .sipush (3), .iadd, .iaload, .invokevirtual 145, .pop, .goto 1394] := by decide +kernel
theorem bL_447 : codeZ 186 447 = [.aload 1, .aload 0, .iload 3, .sipush (1), .iadd, .iaload, .aload 0, .iload 3, .sipush (2), .iadd, .iaload, .invokevirtual 53, .pop, .aload 2, .aload 0, .iload 3, .sipush (1), .iadd, .iaload, .aload 0, .iload 3, .sipush (2), .iadd, .iaload, .invokevirtual 146, .pop, .goto 1394] := by decide +kernel
theorem bL_480 : codeZ 186 480 = [.aload 1, .aload 0, .iload 3, .sipush (1), .iadd, .iaload, .aload 0, .iload 3, .sipush (2), .iadd, .iaload, .aload 0, .iload 3, .sipush (3), .iadd, .iaload, .aload 0, .iload 3, .sipush (4), .iadd, .iaload, .invokevirtual 54, .pop, .aload 2, .aload 0, .iload 3, .sipush (1), .iadd, .iaload, .aload 0, .iload 3, .sipush (2), .iadd, .iaload, .aload 0, .iload 3, .sipush (3), .iadd, .iaload, .aload 0, .iload 3, .sipush (4), .iadd, .iaload, .invokevirtual 147, .pop, .goto 1394] := by decide +kernel
theorem bL_533 : codeZ 186 533 = [.aload 1, .aload 0, .iload 3, .sipush (1), .iadd, .iaload, .invokevirtual 56, .pop, .aload 2, .aload 0, .iload 3, .sipush (1), .iadd, .iaload, .invokevirtual 148, .pop, .goto 1394] := by decide +kernel
theorem bL_556 : codeZ 186 556 = [.aload 1, .aload 0, .iload 3, .sipush (1), .iadd, .iaload, .invokevirtual 57, .pop, .aload 2, .aload 0, .iload 3, .sipush (1), .iadd, .iaload, .invokevirtual 149, .pop, .goto 1394] := by decide +kernel
theorem bL_579 : codeZ 186 579 = [.aload 1, .aload 0, .iload 3, .sipush (1), .iadd, .iaload, .aload 0, .iload 3, .sipush (2), .iadd, .iaload, .invokevirtual 58, .pop, .aload 2, .aload 0, .iload 3, .sipush (1), .iadd, .iaload, .aload 0, .iload 3, .sipush (2), .iadd, .iaload, .invokevirtual 150, .pop, .goto 1394] := by decide +kernel
theorem bL_612 : codeZ 186 612 = [.aload 1, .aload 0, .iload 3, .sipush (1), .iadd, .iaload, .aload 0, .iload 3, .sipush (2), .iadd, .iaload, .aload 0, .iload 3, .sipush (3), .iadd, .iaload, .invokevirtual 59, .pop, .aload 2, .aload 0, .iload 3, .sipush (1), .iadd, .iaload, .aload 0, .iload 3, .sipush (2), .iadd, .iaload, .aload 0, .iload 3, .sipush (3), .iadd, .iaload, .invokevirtual 151, .pop, .goto 1394] := by decide +kernel
theorem bL_655 : codeZ 186 655 = [.aload 1, .aload 0, .iload 3, .sipush (1), .iadd, .iaload, .invokevirtual 60, .pop, .aload 2, .aload 0, .iload 3, .sipush (1), .iadd, .iaload, .invokevirtual 152, .pop, .goto 1394] := by decide +kernel
theorem bL_678 : codeZ 186 678 = [.aload 1, .aload 0, .iload 3, .sipush (1), .iadd, .iaload, .invokevirtual 61, .pop, .aload 2, .aload 0, .iload 3, .sipush (1), .iadd, .iaload, .invokevirtual 155, .pop, .goto 1394] := by decide +kernel
theorem bL_701 : codeZ 186 701 = [.aload 1, .aload 0, .iload 3, .sipush (1), .iadd, .iaload, .invokevirtual 63, .pop, .aload 2, .aload 0, .iload 3, .sipush (1), .iadd, .iaload, .invokevirtual 156, .pop, .goto 1394] := by decide +kernel
theorem bL_724 : codeZ 186 724 = [.aload 1, .aload 0, .iload 3, .sipush (1), .iadd, .iaload, .aload 0, .iload 3, .sipush (2), .iadd, .iaload, .invokevirtual 64, .pop, .aload 2, .aload 0, .iload 3, .sipush (1), .iadd, .iaload, .aload 0, .iload 3, .sipush (2), .iadd, .iaload, .invokevirtual 157, .pop, .goto 1394] := by decide +kernel
theorem bL_757 : codeZ 186 757 = [.aload 1, .aload 0, .iload 3, .sipush (1), .iadd, .iaload, .aload 0, .iload 3, .sipush (2), .iadd, .iaload, .aload 0, .iload 3, .sipush (3), .iadd, .iaload, .invokevirtual 66, .pop, .aload 2, .aload 0, .iload 3, .sipush (1), .iadd, .iaload, .aload 0, .iload 3, .sipush (2), .iadd, .iaload, .aload 0, .iload 3, .sipush (3), .iadd, .iaload, .invokevirtual 158, .pop, .goto 1394] := by decide +kernel
theorem bL_800 : codeZ 186 800 = [.aload 1, .aload 0, .iload 3, .sipush (1), .iadd, .iaload, .aload 0, .iload 3, .sipush (2), .iadd, .iaload, .invokevirtual 67, .pop, .aload 2, .aload 0, .iload 3, .sipush (1), .iadd, .iaload, .aload 0, .iload 3, .sipush (2), .iadd, .iaload, .invokevirtual 159, .pop, .goto 1394] := by decide +kernel
theorem bL_833 : codeZ 186 833 = [.aload 1, .aload 0, .iload 3, .sipush (1), .iadd, .iaload, .invokevirtual 68, .pop, .aload 2, .aload 0, .iload 3, .sipush (1), .iadd, .iaload, .invokevirtual 160, .pop, .goto 1394] := by decide +kernel
theorem bL_856 : codeZ 186 856 = [.aload 1, .aload 0, .iload 3, .sipush (1), .iadd, .iaload, .aload 0, .iload 3, .sipush (2), .iadd, .iaload, .invokevirtual 69, .pop, .aload 2, .aload 0, .iload 3, .sipush (1), .iadd, .iaload, .aload 0, .iload 3, .sipush (2), .iadd, .iaload, .invokevirtual 162, .pop, .goto 1394] := by decide +kernel
theorem bL_889 : codeZ 186 889 = [.aload 1, .aload 0, .iload 3, .sipush (1), .iadd, .iaload, .aload 0, .iload 3, .sipush (2), .iadd, .iaload, .aload 0, .iload 3, .sipush (3), .iadd, .iaload, .invokevirtual 74, .pop2, .aload 2, .aload 0, .iload 3, .sipush (1), .iadd, .iaload, .aload 0, .iload 3, .sipush (2), .iadd, .iaload, .aload 0, .iload 3, .sipush (3), .iadd, .iaload, .invokevirtual 166, .pop2, .goto 1394] := by decide +kernel
theorem bL_932 : codeZ 186 932 = [.aload 1, .aload 0, .iload 3, .sipush (1), .iadd, .iaload, .aload 0, .iload 3, .sipush (2), .iadd, .iaload, .aload 0, .iload 3, .sipush (3), .iadd, .iaload, .aload 0, .iload 3, .sipush (4), .iadd, .iaload, .invokevirtual 75, .pop2, .aload 2, .aload 0, .iload 3, .sipush (1), .iadd, .iaload, .aload 0, .iload 3, .sipush (2), .iadd, .iaload, .aload 0, .iload 3, .sipush (3), .iadd, .iaload, .aload 0, .iload 3, .sipush (4), .iadd, .iaload, .invokevirtual 167, .pop2, .goto 1394] := by decide +kernel
theorem bL_985 : codeZ 186 985 = [.aload 1, .aload 0, .iload 3, .sipush (1), .iadd, .iaload, .aload 0, .iload 3, .sipush (2), .iadd, .iaload, .aload 0, .iload 3, .sipush (3), .iadd, .iaload, .invokevirtual 82, .pop, .aload 2, .aload 0, .iload 3, .sipush (1), .iadd, .iaload, .aload 0, .iload 3, .sipush (2), .iadd, .iaload, .aload 0, .iload 3, .sipush (3), .iadd, .iaload, .invokevirtual 168, .pop, .goto 1394] := by decide +kernel
theorem bL_1028 : codeZ 186 1028 = [.aload 1, .aload 0, .iload 3, .sipush (1), .iadd, .iaload, .invokevirtual 83, .pop, .aload 2, .aload 0, .iload 3, .sipush (1), .iadd, .iaload, .invokevirtual 169, .pop, .goto 1394] := by decide +kernel
theorem bL_1051 : codeZ 186 1051 = [.aload 1, .aload 0, .iload 3, .sipush (1), .iadd, .iaload, .invokevirtual 84, .pop, .aload 2, .aload 0, .iload 3, .sipush (1), .iadd, .iaload, .invokevirtual 172, .pop, .goto 1394] := by decide +kernel
theorem bL_1074 : codeZ 186 1074 = [.aload 1, .aload 0, .iload 3, .sipush (1), .iadd, .iaload, .invokevirtual 85, .pop, .aload 2, .aload 0, .iload 3, .sipush (1), .iadd, .iaload, .invokevirtual 173, .pop, .goto 1394] := by decide +kernel
theorem bL_1097 : codeZ 186 1097 = [.aload 1, .aload 0, .iload 3, .sipush (1), .iadd, .iaload, .aload 0, .iload 3, .sipush (2), .iadd, .iaload, .invokevirtual 88, .pop, .aload 2, .aload 0, .iload 3, .sipush (1), .iadd, .iaload, .aload 0, .iload 3, .sipush (2), .iadd, .iaload, .invokevirtual 174, .pop, .goto 1394] := by decide +kernel
theorem bL_1130 : codeZ 186 1130 = [.aload 1, .aload 0, .iload 3, .sipush (1), .iadd, .iaload, .aload 0, .iload 3, .sipush (2), .iadd, .iaload, .aload 0, .iload 3, .sipush (3), .iadd, .iaload, .invokevirtual 91, .aload 2, .aload 0, .iload 3, .sipush (1), .iadd, .iaload, .aload 0, .iload 3, .sipush (2), .iadd, .iaload, .aload 0, .iload 3, .sipush (3), .iadd, .iaload, .invokevirtual 175, .if_icmp .eq 1394, .sipush (0), .ireturn] := by decide +kernel
theorem bL_1173 : codeZ 186 1173 = [.aload 1, .aload 0, .iload 3, .sipush (1), .iadd, .iaload, .invokevirtual 92, .pop, .aload 2, .aload 0, .iload 3, .sipush (1), .iadd, .iaload, .invokevirtual 177, .pop, .goto 1394] := by decide +kernel
theorem bL_1196 : codeZ 186 1196 = [.aload 1, .aload 0, .iload 3, .sipush (1), .iadd, .iaload, .invokevirtual 93, .pop, .aload 2, .aload 0, .iload 3, .sipush (1), .iadd, .iaload, .invokevirtual 178, .pop, .goto 1394] := by decide +kernel
theorem bL_1219 : codeZ 186 1219 = [.aload 1, .aload 0, .iload 3, .sipush (1), .iadd, .iaload, .aload 0, .iload 3, .sipush (2), .iadd, .iaload, .aload 0, .iload 3, .sipush (3), .iadd, .iaload, .invokevirtual 94, .pop, .aload 2, .aload 0, .iload 3, .sipush (1), .iadd, .iaload, .aload 0, .iload 3, .sipush (2), .iadd, .iaload, .aload 0, .iload 3, .sipush (3), .iadd, .iaload, .invokevirtual 180, .pop, .goto 1394] := by decide +kernel
theorem bL_1262 : codeZ 186 1262 = [.aload 1, .aload 0, .iload 3, .sipush (1), .iadd, .iaload, .aload 0, .iload 3, .sipush (2), .iadd, .iaload, .aload 0, .iload 3, .sipush (3), .iadd, .iaload, .invokevirtual 95, .pop, .aload 2, .aload 0, .iload 3, .sipush (1), .iadd, .iaload, .aload 0, .iload 3, .sipush (2), .iadd, .iaload, .aload 0, .iload 3, .sipush (3), .iadd, .iaload, .invokevirtual 181, .pop, .goto 1394] := by decide +kernel
theorem bL_1305 : codeZ 186 1305 = [.aload 1, .aload 0, .iload 3, .sipush (1), .iadd, .iaload, .aload 0, .iload 3, .sipush (2), .iadd, .iaload, .aload 0, .iload 3, .sipush (3), .iadd, .iaload, .aload 0, .iload 3, .sipush (4), .iadd, .iaload, .invokevirtual 96, .pop, .aload 2, .aload 0, .iload 3, .sipush (1), .iadd, .iaload, .aload 0, .iload 3, .sipush (2), .iadd, .iaload, .aload 0, .iload 3, .sipush (3), .iadd, .iaload, .aload 0, .iload 3, .sipush (4), .iadd, .iaload, .invokevirtual 182, .pop, .goto 1394] := by decide +kernel
theorem bL_1358 : codeZ 186 1358 = [.aload 1, .invokevirtual 97, .pop, .aload 2, .invokevirtual 183, .pop, .goto 1394] := by decide +kernel
theorem bL_1371 : codeZ 186 1371 = [.aload 1, .aload 0, .iload 3, .sipush (1), .iadd, .iaload, .invokevirtual 98, .pop, .aload 2, .aload 0, .iload 3, .sipush (1), .iadd, .iaload, .invokevirtual 184, .pop, .goto 1394] := by decide +kernel
theorem bL_1394 : codeZ 186 1394 = [.iinc 3 (5), .goto 18] := by decide +kernel
theorem bL_1400 : codeZ 186 1400 = [.sipush (1), .ireturn] := by decide +kernel
/-- the script is object 3000 -/
def tb1 (xs : List Int32) (o : Nat) : Option (List Int32) := if o = 3000 then some xs else tb0 o
/-- between the calls -/
def LI (m : Mm) (n : Nat) : Prop := InvT TV m ∧ JK m ∧ TR n m ∧ SR m ∧ FR m ∧ LND m ∧ LTo m
section L2
variable {m m1 m2 : Mm} {n V N : Nat} {q1 q2 : List Nat}
theorem TR2 (k1 : Kp q1 m m1) (k2 : Kp q2 m1 m2) (h : TR n m) (c : (0 ∈ q1 ∧ 1 ∈ q1) ∧ 0 ∈ q2 ∧ 1 ∈ q2) : TR n m2 := TR_Kp (TR_Kp h k1 c.1.1 c.1.2) k2 c.2.1 c.2.2
theorem FR2 (k1 : Kp q1 m m1) (k2 : Kp q2 m1 m2) (h : FR m) (c : (2 ∈ q1 ∧ 3 ∈ q1) ∧ 2 ∈ q2 ∧ 3 ∈ q2) : FR m2 := FR_Kp (FR_Kp h k1 c.1.1 c.1.2) k2 c.2.1 c.2.2
theorem SR2 (k1 : Kp q1 m m1) (k2 : Kp q2 m1 m2) (h : SR m) (c : (4 ∈ q1 ∧ 5 ∈ q1) ∧ 4 ∈ q2 ∧ 5 ∈ q2) : SR m2 := SR_Kp (SR_Kp h k1 c.1.1 c.1.2) k2 c.2.1 c.2.2
theorem LT2 (k1 : Kp q1 m m1) (k2 : Kp q2 m1 m2) (h : LTo m) (c : (6 ∈ q1 ∧ 7 ∈ q1) ∧ 6 ∈ q2 ∧ 7 ∈ q2) : LTo m2 := LTo_Kp (LTo_Kp h k1 c.1.1 c.1.2) k2 c.2.1 c.2.2
theorem LN2 (k1 : Kp q1 m m1) (k2 : Kp q2 m1 m2) (h : LNow V N m) (c : (8 ∈ q1 ∧ 9 ∈ q1) ∧ 8 ∈ q2 ∧ 9 ∈ q2) : LNow V N m2 := LNow_Kp (LNow_Kp h k1 c.1.1 c.1.2) k2 c.2.1 c.2.2
theorem LS2 (k1 : Kp q1 m m1) (k2 : Kp q2 m1 m2) (h : LSn 19 0 N m) (c : (10 ∈ q1 ∧ 11 ∈ q1) ∧ 10 ∈ q2 ∧ 11 ∈ q2) : LSn 19 0 N m2 := LSn_Kp (LSn_Kp h k1 c.1.1 c.1.2) k2 c.2.1 c.2.2
theorem LS3 (k1 : Kp q1 m m1) (k2 : Kp q2 m1 m2) (h : LSn 19 0 N m) (hc : ∀ j, 44 ≤ j → j ≤ 62 → m2.1 69 j = m.1 69 j) (c : 10 ∈ q1 ∧ 10 ∈ q2) : LSn 19 0 N m2 := LSn_e h (fun p j a b hj => (Kp_at k2 c.2 hj (gp10 j (by omega) (by omega))).trans (Kp_at k1 c.1 hj (gp10 j (by omega) (by omega)))) (fun j a b => by rw [Nat.zero_add]; exact hc j a b)
theorem LM2 (k1 : Kp q1 m m1) (k2 : Kp q2 m1 m2) {k : Nat} (h : LIm V k m) (hk : k < 2) (c : (12 ∈ q1 ∧ 13 ∈ q1) ∧ 12 ∈ q2 ∧ 13 ∈ q2) : LIm V k m2 := LIm_Kp (LIm_Kp h hk k1 c.1.1 c.1.2) hk k2 c.2.1 c.2.2
theorem LD2 (k1 : Kp q1 m m1) (k2 : Kp q2 m1 m2) (h : LND m) (c : ((8 ∈ q1 ∧ 9 ∈ q1) ∧ 8 ∈ q2 ∧ 9 ∈ q2) ∧ ((10 ∈ q1 ∧ 11 ∈ q1) ∧ 10 ∈ q2 ∧ 11 ∈ q2) ∧ ((12 ∈ q1 ∧ 13 ∈ q1) ∧ 12 ∈ q2 ∧ 13 ∈ q2)) : LND m2 := by
  obtain ⟨V, N, a1, a2, a3, a4⟩ := h
  exact ⟨V, N, LN2 k1 k2 a1 c.1, LS2 k1 k2 a2 c.2.1, LM2 k1 k2 a3 (by omega) c.2.2, LM2 k1 k2 a4 (by omega) c.2.2⟩
end L2
theorem some_i {v w : Value} {m m' : Mm} (h : (some (some v, m) : Option Rs) = some (some w, m')) : v = w ∧ m = m' := by
  simp only [Option.some.injEq, Prod.mk.injEq] at h
  exact h
theorem C0 : clO shP 0 = some 6 := rfl
theorem lgc_self (x : Int64) : lg_cmp x x = 0 := (lg_cmp_eq x x).mpr rfl
section Lw
variable {wS : List Value → Mm → Option Rs} (hw : WOK wS) (hX : WX wS) (d : Nat) (xs : List Int32)
theorem AL (hl : xs.length ≤ 2560) {j : Nat} (h : j < xs.length) (m : Mm) : alI shP (tb1 xs) 0 3000 (nI j) m = some (xs.getD j 0) := by
  have e : inR (nI j) xs.length = true := inR_nI h (by omega)
  have e3 : (nI j).toNatClampNeg = j := nI_clamp (by omega)
  show (match tb1 xs 3000 with | some T => if 0 = 0 ∧ inR (nI j) T.length = true then some (T.getD (nI j).toNatClampNeg 0) else none | none => none) = _
  rw [show tb1 xs 3000 = some xs from rfl]
  simp only [e, e3, and_self, if_true]
theorem nk (i : Nat) : nI i + 1 = nI (i + 1) ∧ nI i + 2 = nI (i + 2) ∧ nI i + 3 = nI (i + 3) ∧ nI i + 4 = nI (i + 4) ∧ nI i + 5 = nI (i + 5) := ⟨nI_add i 1, nI_add i 2, nI_add i 3, nI_add i 4, nI_add i 5⟩
theorem lb_0 (hw : WOK wS) (hX : WX wS) {i : Nat} (hi : i + 5 ≤ xs.length) (hl : xs.length ≤ 2560) {m : Mm} {n : Nat} (h : LI m n) : ∃ (m' : Mm) (n' : Nat), LI m' n' ∧ rn shP (tb1 xs) mN mO (semZ shP wS (d + 30)) (some .boolean) (codeZ 186) 200 [.ref 3000, .ref 0, .ref 68, .int (nI i)] [] m = rn shP (tb1 xs) mN mO (semZ shP wS (d + 30)) (some .boolean) (codeZ 186) 1394 [.ref 3000, .ref 0, .ref 68, .int (nI i)] [] m' := by
  have tl := TR_len h.2.2.1
  obtain ⟨m1, a1, p1, p2, p3, f1⟩ := t_feed6 (wS := wS) (d + 27) (xs.getD (i + 1) 0) m tl.1 tl.2.2
  have e9 : m1.1 68 9 = nI n := by rw [inW_f p2 (by omega) (by decide)]; exact tl.2.1
  obtain ⟨m2, b1, q1, q2, q3, f2⟩ := t_feed7 (wS := wS) (d + 27) (xs.getD (i + 1) 0) m1 e9 tl.2.2
  have j1 := JK_frm p2 (by decide) (by decide) (by decide) (by decide) h.2.1
  have j2 := JK_frm q2 (by decide) (by decide) (by decide) (by decide) j1
  have k1 : Kp [2, 3, 4, 5, 6, 7, 8, 9, 10, 11, 12, 13] m m1 := Kp_of p2 (by decide +kernel)
  have k2 : Kp [2, 3, 4, 5, 6, 7, 8, 9, 10, 11, 12, 13] m1 m2 := Kp_of q2 (by decide +kernel)
  have sr : SR m2 := SR2 k1 k2 h.2.2.2.1 (by decide)
  have fr : FR m2 := FR2 k1 k2 h.2.2.2.2.1 (by decide)
  have ld : LND m2 := LD2 k1 k2 h.2.2.2.2.2.1 (by decide)
  have lt : LTo m2 := LT2 k1 k2 h.2.2.2.2.2.2 (by decide)
  refine ⟨m2, fdN (xs.getD (i + 1) 0) n, ⟨q3 (p3 h.1), j2, TR_feed h.2.2.1 p1 f1 p2 q1 f2 q2, sr, fr, ld, lt⟩, ?_⟩
  rw [rn_eq, bL_200]
  simp only [EV, LV, CB, OI, OL, NP, CZ, popN, CT, OZ, List.map_nil, List.map_cons, List.sum_nil, List.sum_cons, Option.toList, List.nil_append, List.cons_append, Int.reduceToNat, Nat.reduceAdd, Nat.reduceLT, Nat.reduceLeDiff, List.length_cons, List.length_nil, Nat.zero_add, if_true, if_false, reduceIte, and_self, and_true, true_and, eq_self, reduceCtorEq, C0, C68, nk i, AL xs hl (j := i + 1) (by omega), a1, b1]
theorem lb_1 (hw : WOK wS) (hX : WX wS) {i : Nat} (hi : i + 5 ≤ xs.length) (hl : xs.length ≤ 2560) {m : Mm} {n : Nat} (h : LI m n) : ∃ (m' : Mm) (n' : Nat), LI m' n' ∧ rn shP (tb1 xs) mN mO (semZ shP wS (d + 30)) (some .boolean) (codeZ 186) 223 [.ref 3000, .ref 0, .ref 68, .int (nI i)] [] m = rn shP (tb1 xs) mN mO (semZ shP wS (d + 30)) (some .boolean) (codeZ 186) 1394 [.ref 3000, .ref 0, .ref 68, .int (nI i)] [] m' := by
  have tl := TR_len h.2.2.1
  obtain ⟨m1, a1, p1, p2, p3⟩ := t_end6 (wS := wS) (d + 28) (xs.getD (i + 1) 0) m tl.1 tl.2.2
  have e9 : m1.1 68 9 = nI n := by rw [inW_f p2 (by omega) (by decide)]; exact tl.2.1
  obtain ⟨m2, b1, q1, q2, q3⟩ := t_end7 (wS := wS) (d + 28) (xs.getD (i + 1) 0) m1 e9 tl.2.2
  have j1 := JK_frm p2 (by decide) (by decide) (by decide) (by decide) h.2.1
  have j2 := JK_frm q2 (by decide) (by decide) (by decide) (by decide) j1
  have k1 : Kp [2, 3, 4, 5, 6, 7, 8, 9, 10, 11, 12, 13] m m1 := Kp_of p2 (by decide +kernel)
  have k2 : Kp [2, 3, 4, 5, 6, 7, 8, 9, 10, 11, 12, 13] m1 m2 := Kp_of q2 (by decide +kernel)
  have sr : SR m2 := SR2 k1 k2 h.2.2.2.1 (by decide)
  have fr : FR m2 := FR2 k1 k2 h.2.2.2.2.1 (by decide)
  have ld : LND m2 := LD2 k1 k2 h.2.2.2.2.2.1 (by decide)
  have lt : LTo m2 := LT2 k1 k2 h.2.2.2.2.2.2 (by decide)
  obtain ⟨k, hk, ek⟩ := enN_n (xs.getD (i + 1) 0) tl.2.2
  refine ⟨m2, k, ⟨q3 (p3 h.1), j2, TR_end h.2.2.1 hk (by rw [p1]; exact ek) p2 (by rw [q1]; exact ek) q2, sr, fr, ld, lt⟩, ?_⟩
  rw [rn_eq, bL_223]
  simp only [EV, LV, CB, OI, OL, NP, CZ, popN, CT, OZ, List.map_nil, List.map_cons, List.sum_nil, List.sum_cons, Option.toList, List.nil_append, List.cons_append, Int.reduceToNat, Nat.reduceAdd, Nat.reduceLT, Nat.reduceLeDiff, List.length_cons, List.length_nil, Nat.zero_add, if_true, if_false, reduceIte, and_self, and_true, true_and, eq_self, reduceCtorEq, C0, C68, nk i, AL xs hl (j := i + 1) (by omega), a1, b1]
theorem lb_2 (hw : WOK wS) (hX : WX wS) {i : Nat} (hi : i + 5 ≤ xs.length) (hl : xs.length ≤ 2560) {m : Mm} {n : Nat} (h : LI m n) : ∃ (m' : Mm) (n' : Nat), LI m' n' ∧ rn shP (tb1 xs) mN mO (semZ shP wS (d + 30)) (some .boolean) (codeZ 186) 246 [.ref 3000, .ref 0, .ref 68, .int (nI i)] [] m = rn shP (tb1 xs) mN mO (semZ shP wS (d + 30)) (some .boolean) (codeZ 186) 1394 [.ref 3000, .ref 0, .ref 68, .int (nI i)] [] m' := by
  obtain ⟨v, m1, m2, B, a1, b1, i1, i2, j2, k1, k2, x1, x2, tp⟩ := b_text (wS := wS) d hw hX h.1 h.2.1 h.2.2.1
  have l0 : m2.1 24 0 = 0 := by rw [Kp_at k2 (show 0 ∈ qx [1, 3, 9, 11, 13] by decide) (by omega) g01.2.1]; exact x1.1
  refine ⟨m2, 0, ⟨i2, j2, TR_0 l0 x2.1, SR2 k1 k2 h.2.2.2.1 (by decide), FR_text x1 x2 k2, LND_text h.2.2.2.2.2.1 i2 x1 x2 (hk_text tp) k1 k2, LT2 k1 k2 h.2.2.2.2.2.2 (by decide)⟩, ?_⟩
  rw [rn_eq, bL_246]
  simp only [EV, LV, CB, OI, OL, NP, CZ, popN, CT, OZ, List.map_nil, List.map_cons, List.sum_nil, List.sum_cons, Option.toList, List.nil_append, List.cons_append, Int.reduceToNat, Nat.reduceAdd, Nat.reduceLT, Nat.reduceLeDiff, List.length_cons, List.length_nil, Nat.zero_add, if_true, if_false, reduceIte, and_self, and_true, true_and, eq_self, reduceCtorEq, C0, C68, nk i, a1, b1]
theorem lb_3 (hw : WOK wS) (hX : WX wS) {i : Nat} (hi : i + 5 ≤ xs.length) (hl : xs.length ≤ 2560) {m : Mm} {n : Nat} (h : LI m n) : ∃ (m' : Mm) (n' : Nat), LI m' n' ∧ rn shP (tb1 xs) mN mO (semZ shP wS (d + 30)) (some .boolean) (codeZ 186) 259 [.ref 3000, .ref 0, .ref 68, .int (nI i)] [] m = rn shP (tb1 xs) mN mO (semZ shP wS (d + 30)) (some .boolean) (codeZ 186) 1394 [.ref 3000, .ref 0, .ref 68, .int (nI i)] [] m' := by
  obtain ⟨v1, m1, a1, ⟨x1, rfl⟩, p1, k1⟩ := ok_X6_fault (wS := wS) (d + 2) hw [] m rfl h.1 h.2.1
  obtain ⟨v2, m2, b1, ⟨x2, rfl⟩, p2, k2⟩ := ok_X7_fault (wS := wS) (d + 2) hw [] m1 rfl p1.1 p1.2.1
  have a1 : semZ shP wS (d + 30) 46 [.ref 0] m = some (some (.int x1), m1) := a1
  have b1 : semZ shP wS (d + 30) 119 [.ref 68] m1 = some (some (.int x2), m2) := b1
  obtain ⟨V, N, l1, l2, l3, l4⟩ := h.2.2.2.2.2.1
  obtain ⟨y, m3, m4, c1, c2, hs⟩ := b_fault (wS := wS) d  h.2.2.2.2.1
  obtain ⟨e1, e2⟩ := some_i (a1.symm.trans c1)
  cases e1
  subst e2
  obtain ⟨e3, e4⟩ := some_i (b1.symm.trans c2)
  cases e3
  subst e4
  refine ⟨m2, n, ⟨p2.1, p2.2.1, TR2 k1 k2 h.2.2.1 (by decide), SR2 k1 k2 h.2.2.2.1 (by decide), FR2 k1 k2 h.2.2.2.2.1 (by decide), LD2 k1 k2 h.2.2.2.2.2.1 (by decide), LT2 k1 k2 h.2.2.2.2.2.2 (by decide)⟩, ?_⟩
  rw [rn_eq, bL_259]
  simp only [EV, LV, CB, OI, OL, NP, CZ, popN, CT, OZ, List.map_nil, List.map_cons, List.sum_nil, List.sum_cons, Option.toList, List.nil_append, List.cons_append, Int.reduceToNat, Nat.reduceAdd, Nat.reduceLT, Nat.reduceLeDiff, List.length_cons, List.length_nil, Nat.zero_add, if_true, if_false, reduceIte, and_self, and_true, true_and, eq_self, reduceCtorEq, C0, C68, nk i, a1, b1]
theorem lb_4 (hw : WOK wS) (hX : WX wS) {i : Nat} (hi : i + 5 ≤ xs.length) (hl : xs.length ≤ 2560) {m : Mm} {n : Nat} (h : LI m n) : ∃ (m' : Mm) (n' : Nat), LI m' n' ∧ rn shP (tb1 xs) mN mO (semZ shP wS (d + 30)) (some .boolean) (codeZ 186) 272 [.ref 3000, .ref 0, .ref 68, .int (nI i)] [] m = rn shP (tb1 xs) mN mO (semZ shP wS (d + 30)) (some .boolean) (codeZ 186) 1394 [.ref 3000, .ref 0, .ref 68, .int (nI i)] [] m' := by
  obtain ⟨v1, m1, a1, ⟨x1, rfl⟩, p1, k1⟩ := ok_X6_rule (wS := wS) (d + 2) hw [xs.getD (i + 1) 0] m rfl h.1 h.2.1
  obtain ⟨v2, m2, b1, ⟨x2, rfl⟩, p2, k2⟩ := ok_X7_rule (wS := wS) (d + 2) hw [xs.getD (i + 1) 0] m1 rfl p1.1 p1.2.1
  have a1 : semZ shP wS (d + 30) 47 [.ref 0, .int (xs.getD (i + 1) 0)] m = some (some (.int x1), m1) := a1
  have b1 : semZ shP wS (d + 30) 139 [.ref 68, .int (xs.getD (i + 1) 0)] m1 = some (some (.int x2), m2) := b1
  refine ⟨m2, n, ⟨p2.1, p2.2.1, TR2 k1 k2 h.2.2.1 (by decide), SR2 k1 k2 h.2.2.2.1 (by decide), FR2 k1 k2 h.2.2.2.2.1 (by decide), LD2 k1 k2 h.2.2.2.2.2.1 (by decide), LT2 k1 k2 h.2.2.2.2.2.2 (by decide)⟩, ?_⟩
  rw [rn_eq, bL_272]
  simp only [EV, LV, CB, OI, OL, NP, CZ, popN, CT, OZ, List.map_nil, List.map_cons, List.sum_nil, List.sum_cons, Option.toList, List.nil_append, List.cons_append, Int.reduceToNat, Nat.reduceAdd, Nat.reduceLT, Nat.reduceLeDiff, List.length_cons, List.length_nil, Nat.zero_add, if_true, if_false, reduceIte, and_self, and_true, true_and, eq_self, reduceCtorEq, C0, C68, nk i, AL xs hl (j := i + 1) (by omega), a1, b1]
theorem lb_5 (hw : WOK wS) (hX : WX wS) {i : Nat} (hi : i + 5 ≤ xs.length) (hl : xs.length ≤ 2560) {m : Mm} {n : Nat} (h : LI m n) : ∃ (m' : Mm) (n' : Nat), LI m' n' ∧ rn shP (tb1 xs) mN mO (semZ shP wS (d + 30)) (some .boolean) (codeZ 186) 295 [.ref 3000, .ref 0, .ref 68, .int (nI i)] [] m = rn shP (tb1 xs) mN mO (semZ shP wS (d + 30)) (some .boolean) (codeZ 186) 1394 [.ref 3000, .ref 0, .ref 68, .int (nI i)] [] m' := by
  obtain ⟨v1, m1, a1, ⟨x1, rfl⟩, p1, k1⟩ := ok_X6_village (wS := wS) (d + 2) hw [xs.getD (i + 1) 0, xs.getD (i + 2) 0] m rfl h.1 h.2.1
  obtain ⟨v2, m2, b1, ⟨x2, rfl⟩, p2, k2⟩ := ok_X7_village (wS := wS) (d + 2) hw [xs.getD (i + 1) 0, xs.getD (i + 2) 0] m1 rfl p1.1 p1.2.1
  have a1 : semZ shP wS (d + 30) 48 [.ref 0, .int (xs.getD (i + 1) 0), .int (xs.getD (i + 2) 0)] m = some (some (.int x1), m1) := a1
  have b1 : semZ shP wS (d + 30) 140 [.ref 68, .int (xs.getD (i + 1) 0), .int (xs.getD (i + 2) 0)] m1 = some (some (.int x2), m2) := b1
  refine ⟨m2, n, ⟨p2.1, p2.2.1, TR2 k1 k2 h.2.2.1 (by decide), SR2 k1 k2 h.2.2.2.1 (by decide), FR2 k1 k2 h.2.2.2.2.1 (by decide), LD2 k1 k2 h.2.2.2.2.2.1 (by decide), LT2 k1 k2 h.2.2.2.2.2.2 (by decide)⟩, ?_⟩
  rw [rn_eq, bL_295]
  simp only [EV, LV, CB, OI, OL, NP, CZ, popN, CT, OZ, List.map_nil, List.map_cons, List.sum_nil, List.sum_cons, Option.toList, List.nil_append, List.cons_append, Int.reduceToNat, Nat.reduceAdd, Nat.reduceLT, Nat.reduceLeDiff, List.length_cons, List.length_nil, Nat.zero_add, if_true, if_false, reduceIte, and_self, and_true, true_and, eq_self, reduceCtorEq, C0, C68, nk i, AL xs hl (j := i + 1) (by omega), AL xs hl (j := i + 2) (by omega), a1, b1]
theorem lb_6 (hw : WOK wS) (hX : WX wS) {i : Nat} (hi : i + 5 ≤ xs.length) (hl : xs.length ≤ 2560) {m : Mm} {n : Nat} (h : LI m n) : ∃ (m' : Mm) (n' : Nat), LI m' n' ∧ rn shP (tb1 xs) mN mO (semZ shP wS (d + 30)) (some .boolean) (codeZ 186) 328 [.ref 3000, .ref 0, .ref 68, .int (nI i)] [] m = rn shP (tb1 xs) mN mO (semZ shP wS (d + 30)) (some .boolean) (codeZ 186) 1394 [.ref 3000, .ref 0, .ref 68, .int (nI i)] [] m' := by
  obtain ⟨v1, m1, a1, ⟨x1, rfl⟩, p1, k1⟩ := ok_X6_body (wS := wS) (d + 2) hw [xs.getD (i + 1) 0, xs.getD (i + 2) 0] m rfl h.1 h.2.1
  obtain ⟨v2, m2, b1, ⟨x2, rfl⟩, p2, k2⟩ := ok_X7_body (wS := wS) (d + 2) hw [xs.getD (i + 1) 0, xs.getD (i + 2) 0] m1 rfl p1.1 p1.2.1
  have a1 : semZ shP wS (d + 30) 49 [.ref 0, .int (xs.getD (i + 1) 0), .int (xs.getD (i + 2) 0)] m = some (some (.int x1), m1) := a1
  have b1 : semZ shP wS (d + 30) 141 [.ref 68, .int (xs.getD (i + 1) 0), .int (xs.getD (i + 2) 0)] m1 = some (some (.int x2), m2) := b1
  refine ⟨m2, n, ⟨p2.1, p2.2.1, TR2 k1 k2 h.2.2.1 (by decide), SR2 k1 k2 h.2.2.2.1 (by decide), FR2 k1 k2 h.2.2.2.2.1 (by decide), LD2 k1 k2 h.2.2.2.2.2.1 (by decide), LT2 k1 k2 h.2.2.2.2.2.2 (by decide)⟩, ?_⟩
  rw [rn_eq, bL_328]
  simp only [EV, LV, CB, OI, OL, NP, CZ, popN, CT, OZ, List.map_nil, List.map_cons, List.sum_nil, List.sum_cons, Option.toList, List.nil_append, List.cons_append, Int.reduceToNat, Nat.reduceAdd, Nat.reduceLT, Nat.reduceLeDiff, List.length_cons, List.length_nil, Nat.zero_add, if_true, if_false, reduceIte, and_self, and_true, true_and, eq_self, reduceCtorEq, C0, C68, nk i, AL xs hl (j := i + 1) (by omega), AL xs hl (j := i + 2) (by omega), a1, b1]
theorem lb_7 (hw : WOK wS) (hX : WX wS) {i : Nat} (hi : i + 5 ≤ xs.length) (hl : xs.length ≤ 2560) {m : Mm} {n : Nat} (h : LI m n) : ∃ (m' : Mm) (n' : Nat), LI m' n' ∧ rn shP (tb1 xs) mN mO (semZ shP wS (d + 30)) (some .boolean) (codeZ 186) 361 [.ref 3000, .ref 0, .ref 68, .int (nI i)] [] m = rn shP (tb1 xs) mN mO (semZ shP wS (d + 30)) (some .boolean) (codeZ 186) 1394 [.ref 3000, .ref 0, .ref 68, .int (nI i)] [] m' := by
  obtain ⟨v1, m1, a1, ⟨x1, rfl⟩, p1, k1⟩ := ok_X6_grant (wS := wS) (d + 2) hw [xs.getD (i + 1) 0, xs.getD (i + 2) 0, xs.getD (i + 3) 0] m rfl h.1 h.2.1
  obtain ⟨v2, m2, b1, ⟨x2, rfl⟩, p2, k2⟩ := ok_X7_grant (wS := wS) (d + 2) hw [xs.getD (i + 1) 0, xs.getD (i + 2) 0, xs.getD (i + 3) 0] m1 rfl p1.1 p1.2.1
  have a1 : semZ shP wS (d + 30) 50 [.ref 0, .int (xs.getD (i + 1) 0), .int (xs.getD (i + 2) 0), .int (xs.getD (i + 3) 0)] m = some (some (.int x1), m1) := a1
  have b1 : semZ shP wS (d + 30) 143 [.ref 68, .int (xs.getD (i + 1) 0), .int (xs.getD (i + 2) 0), .int (xs.getD (i + 3) 0)] m1 = some (some (.int x2), m2) := b1
  obtain ⟨V, N, l1, l2, l3, l4⟩ := h.2.2.2.2.2.1
  obtain ⟨y, m3, m4, c1, c2, hs⟩ := b_grant (wS := wS) d (xs.getD (i + 1) 0) (xs.getD (i + 2) 0) (xs.getD (i + 3) 0) l1
  obtain ⟨e1, e2⟩ := some_i (a1.symm.trans c1)
  cases e1
  subst e2
  obtain ⟨e3, e4⟩ := some_i (b1.symm.trans c2)
  cases e3
  subst e4
  refine ⟨m2, n, ⟨p2.1, p2.2.1, TR2 k1 k2 h.2.2.1 (by decide), SR2 k1 k2 h.2.2.2.1 (by decide), FR2 k1 k2 h.2.2.2.2.1 (by decide), ⟨V, N, hs, LS2 k1 k2 l2 (by decide), LM2 k1 k2 l3 (by omega) (by decide), LM2 k1 k2 l4 (by omega) (by decide)⟩, LT2 k1 k2 h.2.2.2.2.2.2 (by decide)⟩, ?_⟩
  rw [rn_eq, bL_361]
  simp only [EV, LV, CB, OI, OL, NP, CZ, popN, CT, OZ, List.map_nil, List.map_cons, List.sum_nil, List.sum_cons, Option.toList, List.nil_append, List.cons_append, Int.reduceToNat, Nat.reduceAdd, Nat.reduceLT, Nat.reduceLeDiff, List.length_cons, List.length_nil, Nat.zero_add, if_true, if_false, reduceIte, and_self, and_true, true_and, eq_self, reduceCtorEq, C0, C68, nk i, AL xs hl (j := i + 1) (by omega), AL xs hl (j := i + 2) (by omega), AL xs hl (j := i + 3) (by omega), a1, b1]
theorem lb_8 (hw : WOK wS) (hX : WX wS) {i : Nat} (hi : i + 5 ≤ xs.length) (hl : xs.length ≤ 2560) {m : Mm} {n : Nat} (h : LI m n) : ∃ (m' : Mm) (n' : Nat), LI m' n' ∧ rn shP (tb1 xs) mN mO (semZ shP wS (d + 30)) (some .boolean) (codeZ 186) 404 [.ref 3000, .ref 0, .ref 68, .int (nI i)] [] m = rn shP (tb1 xs) mN mO (semZ shP wS (d + 30)) (some .boolean) (codeZ 186) 1394 [.ref 3000, .ref 0, .ref 68, .int (nI i)] [] m' := by
  obtain ⟨v1, m1, a1, ⟨x1, rfl⟩, p1, k1⟩ := ok_X6_alter (wS := wS) (d + 2) hw [xs.getD (i + 1) 0, xs.getD (i + 2) 0, xs.getD (i + 3) 0] m rfl h.1 h.2.1
  obtain ⟨v2, m2, b1, ⟨x2, rfl⟩, p2, k2⟩ := ok_X7_alter (wS := wS) (d + 2) hw [xs.getD (i + 1) 0, xs.getD (i + 2) 0, xs.getD (i + 3) 0] m1 rfl p1.1 p1.2.1
  have a1 : semZ shP wS (d + 30) 51 [.ref 0, .int (xs.getD (i + 1) 0), .int (xs.getD (i + 2) 0), .int (xs.getD (i + 3) 0)] m = some (some (.int x1), m1) := a1
  have b1 : semZ shP wS (d + 30) 145 [.ref 68, .int (xs.getD (i + 1) 0), .int (xs.getD (i + 2) 0), .int (xs.getD (i + 3) 0)] m1 = some (some (.int x2), m2) := b1
  obtain ⟨V, N, l1, l2, l3, l4⟩ := h.2.2.2.2.2.1
  obtain ⟨y, m3, m4, c1, c2, hs⟩ := b_alter (wS := wS) d (xs.getD (i + 1) 0) (xs.getD (i + 2) 0) (xs.getD (i + 3) 0) l1
  obtain ⟨e1, e2⟩ := some_i (a1.symm.trans c1)
  cases e1
  subst e2
  obtain ⟨e3, e4⟩ := some_i (b1.symm.trans c2)
  cases e3
  subst e4
  refine ⟨m2, n, ⟨p2.1, p2.2.1, TR2 k1 k2 h.2.2.1 (by decide), SR2 k1 k2 h.2.2.2.1 (by decide), FR2 k1 k2 h.2.2.2.2.1 (by decide), ⟨V, N, hs, LS2 k1 k2 l2 (by decide), LM2 k1 k2 l3 (by omega) (by decide), LM2 k1 k2 l4 (by omega) (by decide)⟩, LT2 k1 k2 h.2.2.2.2.2.2 (by decide)⟩, ?_⟩
  rw [rn_eq, bL_404]
  simp only [EV, LV, CB, OI, OL, NP, CZ, popN, CT, OZ, List.map_nil, List.map_cons, List.sum_nil, List.sum_cons, Option.toList, List.nil_append, List.cons_append, Int.reduceToNat, Nat.reduceAdd, Nat.reduceLT, Nat.reduceLeDiff, List.length_cons, List.length_nil, Nat.zero_add, if_true, if_false, reduceIte, and_self, and_true, true_and, eq_self, reduceCtorEq, C0, C68, nk i, AL xs hl (j := i + 1) (by omega), AL xs hl (j := i + 2) (by omega), AL xs hl (j := i + 3) (by omega), a1, b1]
theorem lb_9 (hw : WOK wS) (hX : WX wS) {i : Nat} (hi : i + 5 ≤ xs.length) (hl : xs.length ≤ 2560) {m : Mm} {n : Nat} (h : LI m n) : ∃ (m' : Mm) (n' : Nat), LI m' n' ∧ rn shP (tb1 xs) mN mO (semZ shP wS (d + 30)) (some .boolean) (codeZ 186) 447 [.ref 3000, .ref 0, .ref 68, .int (nI i)] [] m = rn shP (tb1 xs) mN mO (semZ shP wS (d + 30)) (some .boolean) (codeZ 186) 1394 [.ref 3000, .ref 0, .ref 68, .int (nI i)] [] m' := by
  obtain ⟨v1, m1, a1, ⟨x1, rfl⟩, p1, k1⟩ := ok_X6_set (wS := wS) (d + 2) hw [xs.getD (i + 1) 0, xs.getD (i + 2) 0] m rfl h.1 h.2.1
  obtain ⟨v2, m2, b1, ⟨x2, rfl⟩, p2, k2⟩ := ok_X7_set (wS := wS) (d + 2) hw [xs.getD (i + 1) 0, xs.getD (i + 2) 0] m1 rfl p1.1 p1.2.1
  have a1 : semZ shP wS (d + 30) 53 [.ref 0, .int (xs.getD (i + 1) 0), .int (xs.getD (i + 2) 0)] m = some (some (.int x1), m1) := a1
  have b1 : semZ shP wS (d + 30) 146 [.ref 68, .int (xs.getD (i + 1) 0), .int (xs.getD (i + 2) 0)] m1 = some (some (.int x2), m2) := b1
  obtain ⟨V, N, l1, l2, l3, l4⟩ := h.2.2.2.2.2.1
  obtain ⟨y, m3, m4, c1, c2, hs⟩ := b_set (wS := wS) d (xs.getD (i + 1) 0) (xs.getD (i + 2) 0) l1
  obtain ⟨e1, e2⟩ := some_i (a1.symm.trans c1)
  cases e1
  subst e2
  obtain ⟨e3, e4⟩ := some_i (b1.symm.trans c2)
  cases e3
  subst e4
  refine ⟨m2, n, ⟨p2.1, p2.2.1, TR2 k1 k2 h.2.2.1 (by decide), SR2 k1 k2 h.2.2.2.1 (by decide), FR2 k1 k2 h.2.2.2.2.1 (by decide), ⟨V, N, hs, LS2 k1 k2 l2 (by decide), LM2 k1 k2 l3 (by omega) (by decide), LM2 k1 k2 l4 (by omega) (by decide)⟩, LT2 k1 k2 h.2.2.2.2.2.2 (by decide)⟩, ?_⟩
  rw [rn_eq, bL_447]
  simp only [EV, LV, CB, OI, OL, NP, CZ, popN, CT, OZ, List.map_nil, List.map_cons, List.sum_nil, List.sum_cons, Option.toList, List.nil_append, List.cons_append, Int.reduceToNat, Nat.reduceAdd, Nat.reduceLT, Nat.reduceLeDiff, List.length_cons, List.length_nil, Nat.zero_add, if_true, if_false, reduceIte, and_self, and_true, true_and, eq_self, reduceCtorEq, C0, C68, nk i, AL xs hl (j := i + 1) (by omega), AL xs hl (j := i + 2) (by omega), a1, b1]
theorem lb_10 (hw : WOK wS) (hX : WX wS) {i : Nat} (hi : i + 5 ≤ xs.length) (hl : xs.length ≤ 2560) {m : Mm} {n : Nat} (h : LI m n) : ∃ (m' : Mm) (n' : Nat), LI m' n' ∧ rn shP (tb1 xs) mN mO (semZ shP wS (d + 30)) (some .boolean) (codeZ 186) 480 [.ref 3000, .ref 0, .ref 68, .int (nI i)] [] m = rn shP (tb1 xs) mN mO (semZ shP wS (d + 30)) (some .boolean) (codeZ 186) 1394 [.ref 3000, .ref 0, .ref 68, .int (nI i)] [] m' := by
  obtain ⟨v1, m1, a1, ⟨x1, rfl⟩, p1, k1⟩ := ok_X6_find (wS := wS) (d + 2) hw [xs.getD (i + 1) 0, xs.getD (i + 2) 0, xs.getD (i + 3) 0, xs.getD (i + 4) 0] m rfl h.1 h.2.1
  obtain ⟨v2, m2, b1, ⟨x2, rfl⟩, p2, k2⟩ := ok_X7_find (wS := wS) (d + 2) hw [xs.getD (i + 1) 0, xs.getD (i + 2) 0, xs.getD (i + 3) 0, xs.getD (i + 4) 0] m1 rfl p1.1 p1.2.1
  have a1 : semZ shP wS (d + 30) 54 [.ref 0, .int (xs.getD (i + 1) 0), .int (xs.getD (i + 2) 0), .int (xs.getD (i + 3) 0), .int (xs.getD (i + 4) 0)] m = some (some (.int x1), m1) := a1
  have b1 : semZ shP wS (d + 30) 147 [.ref 68, .int (xs.getD (i + 1) 0), .int (xs.getD (i + 2) 0), .int (xs.getD (i + 3) 0), .int (xs.getD (i + 4) 0)] m1 = some (some (.int x2), m2) := b1
  obtain ⟨V, N, l1, l2, l3, l4⟩ := h.2.2.2.2.2.1
  obtain ⟨y, m3, m4, c1, c2, hs⟩ := b_find (wS := wS) d (xs.getD (i + 1) 0) (xs.getD (i + 2) 0) (xs.getD (i + 3) 0) (xs.getD (i + 4) 0) l1
  obtain ⟨e1, e2⟩ := some_i (a1.symm.trans c1)
  cases e1
  subst e2
  obtain ⟨e3, e4⟩ := some_i (b1.symm.trans c2)
  cases e3
  subst e4
  obtain ⟨N1, hN1, hs⟩ := hs
  refine ⟨m2, n, ⟨p2.1, p2.2.1, TR2 k1 k2 h.2.2.1 (by decide), SR2 k1 k2 h.2.2.2.1 (by decide), FR2 k1 k2 h.2.2.2.2.1 (by decide), ⟨V, N1, hs, LSn_N (LS2 k1 k2 l2 (by decide)) hN1, LM2 k1 k2 l3 (by omega) (by decide), LM2 k1 k2 l4 (by omega) (by decide)⟩, LT2 k1 k2 h.2.2.2.2.2.2 (by decide)⟩, ?_⟩
  rw [rn_eq, bL_480]
  simp only [EV, LV, CB, OI, OL, NP, CZ, popN, CT, OZ, List.map_nil, List.map_cons, List.sum_nil, List.sum_cons, Option.toList, List.nil_append, List.cons_append, Int.reduceToNat, Nat.reduceAdd, Nat.reduceLT, Nat.reduceLeDiff, List.length_cons, List.length_nil, Nat.zero_add, if_true, if_false, reduceIte, and_self, and_true, true_and, eq_self, reduceCtorEq, C0, C68, nk i, AL xs hl (j := i + 1) (by omega), AL xs hl (j := i + 2) (by omega), AL xs hl (j := i + 3) (by omega), AL xs hl (j := i + 4) (by omega), a1, b1]
theorem lb_11 (hw : WOK wS) (hX : WX wS) {i : Nat} (hi : i + 5 ≤ xs.length) (hl : xs.length ≤ 2560) {m : Mm} {n : Nat} (h : LI m n) : ∃ (m' : Mm) (n' : Nat), LI m' n' ∧ rn shP (tb1 xs) mN mO (semZ shP wS (d + 30)) (some .boolean) (codeZ 186) 533 [.ref 3000, .ref 0, .ref 68, .int (nI i)] [] m = rn shP (tb1 xs) mN mO (semZ shP wS (d + 30)) (some .boolean) (codeZ 186) 1394 [.ref 3000, .ref 0, .ref 68, .int (nI i)] [] m' := by
  obtain ⟨v1, m1, a1, ⟨x1, rfl⟩, p1, k1⟩ := ok_X6_hire (wS := wS) (d + 2) hw [xs.getD (i + 1) 0] m rfl h.1 h.2.1
  obtain ⟨v2, m2, b1, ⟨x2, rfl⟩, p2, k2⟩ := ok_X7_hire (wS := wS) (d + 2) hw [xs.getD (i + 1) 0] m1 rfl p1.1 p1.2.1
  have a1 : semZ shP wS (d + 30) 56 [.ref 0, .int (xs.getD (i + 1) 0)] m = some (some (.int x1), m1) := a1
  have b1 : semZ shP wS (d + 30) 148 [.ref 68, .int (xs.getD (i + 1) 0)] m1 = some (some (.int x2), m2) := b1
  obtain ⟨V, N, l1, l2, l3, l4⟩ := h.2.2.2.2.2.1
  obtain ⟨y, m3, m4, c1, c2, hs⟩ := b_hire (wS := wS) d (xs.getD (i + 1) 0) l1
  obtain ⟨e1, e2⟩ := some_i (a1.symm.trans c1)
  cases e1
  subst e2
  obtain ⟨e3, e4⟩ := some_i (b1.symm.trans c2)
  cases e3
  subst e4
  refine ⟨m2, n, ⟨p2.1, p2.2.1, TR2 k1 k2 h.2.2.1 (by decide), SR2 k1 k2 h.2.2.2.1 (by decide), FR2 k1 k2 h.2.2.2.2.1 (by decide), ⟨V, N, hs.1, LS3 k1 k2 l2 hs.2 (by decide), LM2 k1 k2 l3 (by omega) (by decide), LM2 k1 k2 l4 (by omega) (by decide)⟩, LT2 k1 k2 h.2.2.2.2.2.2 (by decide)⟩, ?_⟩
  rw [rn_eq, bL_533]
  simp only [EV, LV, CB, OI, OL, NP, CZ, popN, CT, OZ, List.map_nil, List.map_cons, List.sum_nil, List.sum_cons, Option.toList, List.nil_append, List.cons_append, Int.reduceToNat, Nat.reduceAdd, Nat.reduceLT, Nat.reduceLeDiff, List.length_cons, List.length_nil, Nat.zero_add, if_true, if_false, reduceIte, and_self, and_true, true_and, eq_self, reduceCtorEq, C0, C68, nk i, AL xs hl (j := i + 1) (by omega), a1, b1]
theorem lb_12 (hw : WOK wS) (hX : WX wS) {i : Nat} (hi : i + 5 ≤ xs.length) (hl : xs.length ≤ 2560) {m : Mm} {n : Nat} (h : LI m n) : ∃ (m' : Mm) (n' : Nat), LI m' n' ∧ rn shP (tb1 xs) mN mO (semZ shP wS (d + 30)) (some .boolean) (codeZ 186) 556 [.ref 3000, .ref 0, .ref 68, .int (nI i)] [] m = rn shP (tb1 xs) mN mO (semZ shP wS (d + 30)) (some .boolean) (codeZ 186) 1394 [.ref 3000, .ref 0, .ref 68, .int (nI i)] [] m' := by
  obtain ⟨v1, m1, a1, ⟨x1, rfl⟩, p1, k1⟩ := ok_X6_nights (wS := wS) (d + 2) hw [xs.getD (i + 1) 0] m rfl h.1 h.2.1
  obtain ⟨v2, m2, b1, ⟨x2, rfl⟩, p2, k2⟩ := ok_X7_nights (wS := wS) (d + 2) hw [xs.getD (i + 1) 0] m1 rfl p1.1 p1.2.1
  have a1 : semZ shP wS (d + 30) 57 [.ref 0, .int (xs.getD (i + 1) 0)] m = some (some (.int x1), m1) := a1
  have b1 : semZ shP wS (d + 30) 149 [.ref 68, .int (xs.getD (i + 1) 0)] m1 = some (some (.int x2), m2) := b1
  obtain ⟨V, N, l1, l2, l3, l4⟩ := h.2.2.2.2.2.1
  obtain ⟨y, m3, m4, c1, c2, hs⟩ := b_nights (wS := wS) d (xs.getD (i + 1) 0) h.1 l1
  obtain ⟨e1, e2⟩ := some_i (a1.symm.trans c1)
  cases e1
  subst e2
  obtain ⟨e3, e4⟩ := some_i (b1.symm.trans c2)
  cases e3
  subst e4
  refine ⟨m2, n, ⟨p2.1, p2.2.1, TR2 k1 k2 h.2.2.1 (by decide), SR2 k1 k2 h.2.2.2.1 (by decide), FR2 k1 k2 h.2.2.2.2.1 (by decide), ⟨V, N, hs.1, LS3 k1 k2 l2 hs.2 (by decide), LM2 k1 k2 l3 (by omega) (by decide), LM2 k1 k2 l4 (by omega) (by decide)⟩, LT2 k1 k2 h.2.2.2.2.2.2 (by decide)⟩, ?_⟩
  rw [rn_eq, bL_556]
  simp only [EV, LV, CB, OI, OL, NP, CZ, popN, CT, OZ, List.map_nil, List.map_cons, List.sum_nil, List.sum_cons, Option.toList, List.nil_append, List.cons_append, Int.reduceToNat, Nat.reduceAdd, Nat.reduceLT, Nat.reduceLeDiff, List.length_cons, List.length_nil, Nat.zero_add, if_true, if_false, reduceIte, and_self, and_true, true_and, eq_self, reduceCtorEq, C0, C68, nk i, AL xs hl (j := i + 1) (by omega), a1, b1]
theorem lb_13 (hw : WOK wS) (hX : WX wS) {i : Nat} (hi : i + 5 ≤ xs.length) (hl : xs.length ≤ 2560) {m : Mm} {n : Nat} (h : LI m n) : ∃ (m' : Mm) (n' : Nat), LI m' n' ∧ rn shP (tb1 xs) mN mO (semZ shP wS (d + 30)) (some .boolean) (codeZ 186) 579 [.ref 3000, .ref 0, .ref 68, .int (nI i)] [] m = rn shP (tb1 xs) mN mO (semZ shP wS (d + 30)) (some .boolean) (codeZ 186) 1394 [.ref 3000, .ref 0, .ref 68, .int (nI i)] [] m' := by
  obtain ⟨v1, m1, a1, ⟨x1, rfl⟩, p1, k1⟩ := ok_X6_runs (wS := wS) (d + 2) hw [xs.getD (i + 1) 0, xs.getD (i + 2) 0] m rfl h.1 h.2.1
  obtain ⟨v2, m2, b1, ⟨x2, rfl⟩, p2, k2⟩ := ok_X7_runs (wS := wS) (d + 2) hw [xs.getD (i + 1) 0, xs.getD (i + 2) 0] m1 rfl p1.1 p1.2.1
  have a1 : semZ shP wS (d + 30) 58 [.ref 0, .int (xs.getD (i + 1) 0), .int (xs.getD (i + 2) 0)] m = some (some (.int x1), m1) := a1
  have b1 : semZ shP wS (d + 30) 150 [.ref 68, .int (xs.getD (i + 1) 0), .int (xs.getD (i + 2) 0)] m1 = some (some (.int x2), m2) := b1
  refine ⟨m2, n, ⟨p2.1, p2.2.1, TR2 k1 k2 h.2.2.1 (by decide), SR2 k1 k2 h.2.2.2.1 (by decide), FR2 k1 k2 h.2.2.2.2.1 (by decide), LD2 k1 k2 h.2.2.2.2.2.1 (by decide), LT2 k1 k2 h.2.2.2.2.2.2 (by decide)⟩, ?_⟩
  rw [rn_eq, bL_579]
  simp only [EV, LV, CB, OI, OL, NP, CZ, popN, CT, OZ, List.map_nil, List.map_cons, List.sum_nil, List.sum_cons, Option.toList, List.nil_append, List.cons_append, Int.reduceToNat, Nat.reduceAdd, Nat.reduceLT, Nat.reduceLeDiff, List.length_cons, List.length_nil, Nat.zero_add, if_true, if_false, reduceIte, and_self, and_true, true_and, eq_self, reduceCtorEq, C0, C68, nk i, AL xs hl (j := i + 1) (by omega), AL xs hl (j := i + 2) (by omega), a1, b1]
theorem lb_14 (hw : WOK wS) (hX : WX wS) {i : Nat} (hi : i + 5 ≤ xs.length) (hl : xs.length ≤ 2560) {m : Mm} {n : Nat} (h : LI m n) : ∃ (m' : Mm) (n' : Nat), LI m' n' ∧ rn shP (tb1 xs) mN mO (semZ shP wS (d + 30)) (some .boolean) (codeZ 186) 612 [.ref 3000, .ref 0, .ref 68, .int (nI i)] [] m = rn shP (tb1 xs) mN mO (semZ shP wS (d + 30)) (some .boolean) (codeZ 186) 1394 [.ref 3000, .ref 0, .ref 68, .int (nI i)] [] m' := by
  obtain ⟨v1, m1, a1, ⟨x1, rfl⟩, p1, k1⟩ := ok_X6_ahead (wS := wS) (d + 2) hw [xs.getD (i + 1) 0, xs.getD (i + 2) 0, xs.getD (i + 3) 0] m rfl h.1 h.2.1
  obtain ⟨v2, m2, b1, ⟨x2, rfl⟩, p2, k2⟩ := ok_X7_ahead (wS := wS) (d + 2) hw [xs.getD (i + 1) 0, xs.getD (i + 2) 0, xs.getD (i + 3) 0] m1 rfl p1.1 p1.2.1
  have a1 : semZ shP wS (d + 30) 59 [.ref 0, .int (xs.getD (i + 1) 0), .int (xs.getD (i + 2) 0), .int (xs.getD (i + 3) 0)] m = some (some (.int x1), m1) := a1
  have b1 : semZ shP wS (d + 30) 151 [.ref 68, .int (xs.getD (i + 1) 0), .int (xs.getD (i + 2) 0), .int (xs.getD (i + 3) 0)] m1 = some (some (.int x2), m2) := b1
  refine ⟨m2, n, ⟨p2.1, p2.2.1, TR2 k1 k2 h.2.2.1 (by decide), SR2 k1 k2 h.2.2.2.1 (by decide), FR2 k1 k2 h.2.2.2.2.1 (by decide), LD2 k1 k2 h.2.2.2.2.2.1 (by decide), LT2 k1 k2 h.2.2.2.2.2.2 (by decide)⟩, ?_⟩
  rw [rn_eq, bL_612]
  simp only [EV, LV, CB, OI, OL, NP, CZ, popN, CT, OZ, List.map_nil, List.map_cons, List.sum_nil, List.sum_cons, Option.toList, List.nil_append, List.cons_append, Int.reduceToNat, Nat.reduceAdd, Nat.reduceLT, Nat.reduceLeDiff, List.length_cons, List.length_nil, Nat.zero_add, if_true, if_false, reduceIte, and_self, and_true, true_and, eq_self, reduceCtorEq, C0, C68, nk i, AL xs hl (j := i + 1) (by omega), AL xs hl (j := i + 2) (by omega), AL xs hl (j := i + 3) (by omega), a1, b1]
theorem lb_15 (hw : WOK wS) (hX : WX wS) {i : Nat} (hi : i + 5 ≤ xs.length) (hl : xs.length ≤ 2560) {m : Mm} {n : Nat} (h : LI m n) : ∃ (m' : Mm) (n' : Nat), LI m' n' ∧ rn shP (tb1 xs) mN mO (semZ shP wS (d + 30)) (some .boolean) (codeZ 186) 655 [.ref 3000, .ref 0, .ref 68, .int (nI i)] [] m = rn shP (tb1 xs) mN mO (semZ shP wS (d + 30)) (some .boolean) (codeZ 186) 1394 [.ref 3000, .ref 0, .ref 68, .int (nI i)] [] m' := by
  obtain ⟨v1, m1, a1, ⟨x1, rfl⟩, p1, k1⟩ := ok_X6_settled (wS := wS) (d + 2) hw [xs.getD (i + 1) 0] m rfl h.1 h.2.1
  obtain ⟨v2, m2, b1, ⟨x2, rfl⟩, p2, k2⟩ := ok_X7_settled (wS := wS) (d + 2) hw [xs.getD (i + 1) 0] m1 rfl p1.1 p1.2.1
  have a1 : semZ shP wS (d + 30) 60 [.ref 0, .int (xs.getD (i + 1) 0)] m = some (some (.int x1), m1) := a1
  have b1 : semZ shP wS (d + 30) 152 [.ref 68, .int (xs.getD (i + 1) 0)] m1 = some (some (.int x2), m2) := b1
  refine ⟨m2, n, ⟨p2.1, p2.2.1, TR2 k1 k2 h.2.2.1 (by decide), SR2 k1 k2 h.2.2.2.1 (by decide), FR2 k1 k2 h.2.2.2.2.1 (by decide), LD2 k1 k2 h.2.2.2.2.2.1 (by decide), LT2 k1 k2 h.2.2.2.2.2.2 (by decide)⟩, ?_⟩
  rw [rn_eq, bL_655]
  simp only [EV, LV, CB, OI, OL, NP, CZ, popN, CT, OZ, List.map_nil, List.map_cons, List.sum_nil, List.sum_cons, Option.toList, List.nil_append, List.cons_append, Int.reduceToNat, Nat.reduceAdd, Nat.reduceLT, Nat.reduceLeDiff, List.length_cons, List.length_nil, Nat.zero_add, if_true, if_false, reduceIte, and_self, and_true, true_and, eq_self, reduceCtorEq, C0, C68, nk i, AL xs hl (j := i + 1) (by omega), a1, b1]
theorem lb_16 (hw : WOK wS) (hX : WX wS) {i : Nat} (hi : i + 5 ≤ xs.length) (hl : xs.length ≤ 2560) {m : Mm} {n : Nat} (h : LI m n) : ∃ (m' : Mm) (n' : Nat), LI m' n' ∧ rn shP (tb1 xs) mN mO (semZ shP wS (d + 30)) (some .boolean) (codeZ 186) 678 [.ref 3000, .ref 0, .ref 68, .int (nI i)] [] m = rn shP (tb1 xs) mN mO (semZ shP wS (d + 30)) (some .boolean) (codeZ 186) 1394 [.ref 3000, .ref 0, .ref 68, .int (nI i)] [] m' := by
  obtain ⟨v1, m1, a1, ⟨x1, rfl⟩, p1, k1⟩ := ok_X6_dear (wS := wS) (d + 2) hw [xs.getD (i + 1) 0] m rfl h.1 h.2.1
  obtain ⟨v2, m2, b1, ⟨x2, rfl⟩, p2, k2⟩ := ok_X7_dear (wS := wS) (d + 2) hw [xs.getD (i + 1) 0] m1 rfl p1.1 p1.2.1
  have a1 : semZ shP wS (d + 30) 61 [.ref 0, .int (xs.getD (i + 1) 0)] m = some (some (.int x1), m1) := a1
  have b1 : semZ shP wS (d + 30) 155 [.ref 68, .int (xs.getD (i + 1) 0)] m1 = some (some (.int x2), m2) := b1
  refine ⟨m2, n, ⟨p2.1, p2.2.1, TR2 k1 k2 h.2.2.1 (by decide), SR2 k1 k2 h.2.2.2.1 (by decide), FR2 k1 k2 h.2.2.2.2.1 (by decide), LD2 k1 k2 h.2.2.2.2.2.1 (by decide), LT2 k1 k2 h.2.2.2.2.2.2 (by decide)⟩, ?_⟩
  rw [rn_eq, bL_678]
  simp only [EV, LV, CB, OI, OL, NP, CZ, popN, CT, OZ, List.map_nil, List.map_cons, List.sum_nil, List.sum_cons, Option.toList, List.nil_append, List.cons_append, Int.reduceToNat, Nat.reduceAdd, Nat.reduceLT, Nat.reduceLeDiff, List.length_cons, List.length_nil, Nat.zero_add, if_true, if_false, reduceIte, and_self, and_true, true_and, eq_self, reduceCtorEq, C0, C68, nk i, AL xs hl (j := i + 1) (by omega), a1, b1]
theorem lb_17 (hw : WOK wS) (hX : WX wS) {i : Nat} (hi : i + 5 ≤ xs.length) (hl : xs.length ≤ 2560) {m : Mm} {n : Nat} (h : LI m n) : ∃ (m' : Mm) (n' : Nat), LI m' n' ∧ rn shP (tb1 xs) mN mO (semZ shP wS (d + 30)) (some .boolean) (codeZ 186) 701 [.ref 3000, .ref 0, .ref 68, .int (nI i)] [] m = rn shP (tb1 xs) mN mO (semZ shP wS (d + 30)) (some .boolean) (codeZ 186) 1394 [.ref 3000, .ref 0, .ref 68, .int (nI i)] [] m' := by
  obtain ⟨v1, m1, a1, ⟨x1, rfl⟩, p1, k1⟩ := ok_X6_mild (wS := wS) (d + 2) hw [xs.getD (i + 1) 0] m rfl h.1 h.2.1
  obtain ⟨v2, m2, b1, ⟨x2, rfl⟩, p2, k2⟩ := ok_X7_mild (wS := wS) (d + 2) hw [xs.getD (i + 1) 0] m1 rfl p1.1 p1.2.1
  have a1 : semZ shP wS (d + 30) 63 [.ref 0, .int (xs.getD (i + 1) 0)] m = some (some (.int x1), m1) := a1
  have b1 : semZ shP wS (d + 30) 156 [.ref 68, .int (xs.getD (i + 1) 0)] m1 = some (some (.int x2), m2) := b1
  refine ⟨m2, n, ⟨p2.1, p2.2.1, TR2 k1 k2 h.2.2.1 (by decide), SR2 k1 k2 h.2.2.2.1 (by decide), FR2 k1 k2 h.2.2.2.2.1 (by decide), LD2 k1 k2 h.2.2.2.2.2.1 (by decide), LT2 k1 k2 h.2.2.2.2.2.2 (by decide)⟩, ?_⟩
  rw [rn_eq, bL_701]
  simp only [EV, LV, CB, OI, OL, NP, CZ, popN, CT, OZ, List.map_nil, List.map_cons, List.sum_nil, List.sum_cons, Option.toList, List.nil_append, List.cons_append, Int.reduceToNat, Nat.reduceAdd, Nat.reduceLT, Nat.reduceLeDiff, List.length_cons, List.length_nil, Nat.zero_add, if_true, if_false, reduceIte, and_self, and_true, true_and, eq_self, reduceCtorEq, C0, C68, nk i, AL xs hl (j := i + 1) (by omega), a1, b1]
theorem lb_18 (hw : WOK wS) (hX : WX wS) {i : Nat} (hi : i + 5 ≤ xs.length) (hl : xs.length ≤ 2560) {m : Mm} {n : Nat} (h : LI m n) : ∃ (m' : Mm) (n' : Nat), LI m' n' ∧ rn shP (tb1 xs) mN mO (semZ shP wS (d + 30)) (some .boolean) (codeZ 186) 724 [.ref 3000, .ref 0, .ref 68, .int (nI i)] [] m = rn shP (tb1 xs) mN mO (semZ shP wS (d + 30)) (some .boolean) (codeZ 186) 1394 [.ref 3000, .ref 0, .ref 68, .int (nI i)] [] m' := by
  obtain ⟨v1, m1, a1, ⟨x1, rfl⟩, p1, k1⟩ := ok_X6_watch (wS := wS) (d + 2) hw [xs.getD (i + 1) 0, xs.getD (i + 2) 0] m rfl h.1 h.2.1
  obtain ⟨v2, m2, b1, ⟨x2, rfl⟩, p2, k2⟩ := ok_X7_watch (wS := wS) (d + 2) hw [xs.getD (i + 1) 0, xs.getD (i + 2) 0] m1 rfl p1.1 p1.2.1
  have a1 : semZ shP wS (d + 30) 64 [.ref 0, .int (xs.getD (i + 1) 0), .int (xs.getD (i + 2) 0)] m = some (some (.int x1), m1) := a1
  have b1 : semZ shP wS (d + 30) 157 [.ref 68, .int (xs.getD (i + 1) 0), .int (xs.getD (i + 2) 0)] m1 = some (some (.int x2), m2) := b1
  refine ⟨m2, n, ⟨p2.1, p2.2.1, TR2 k1 k2 h.2.2.1 (by decide), SR2 k1 k2 h.2.2.2.1 (by decide), FR2 k1 k2 h.2.2.2.2.1 (by decide), LD2 k1 k2 h.2.2.2.2.2.1 (by decide), LT2 k1 k2 h.2.2.2.2.2.2 (by decide)⟩, ?_⟩
  rw [rn_eq, bL_724]
  simp only [EV, LV, CB, OI, OL, NP, CZ, popN, CT, OZ, List.map_nil, List.map_cons, List.sum_nil, List.sum_cons, Option.toList, List.nil_append, List.cons_append, Int.reduceToNat, Nat.reduceAdd, Nat.reduceLT, Nat.reduceLeDiff, List.length_cons, List.length_nil, Nat.zero_add, if_true, if_false, reduceIte, and_self, and_true, true_and, eq_self, reduceCtorEq, C0, C68, nk i, AL xs hl (j := i + 1) (by omega), AL xs hl (j := i + 2) (by omega), a1, b1]
theorem lb_19 (hw : WOK wS) (hX : WX wS) {i : Nat} (hi : i + 5 ≤ xs.length) (hl : xs.length ≤ 2560) {m : Mm} {n : Nat} (h : LI m n) : ∃ (m' : Mm) (n' : Nat), LI m' n' ∧ rn shP (tb1 xs) mN mO (semZ shP wS (d + 30)) (some .boolean) (codeZ 186) 757 [.ref 3000, .ref 0, .ref 68, .int (nI i)] [] m = rn shP (tb1 xs) mN mO (semZ shP wS (d + 30)) (some .boolean) (codeZ 186) 1394 [.ref 3000, .ref 0, .ref 68, .int (nI i)] [] m' := by
  obtain ⟨v1, m1, a1, ⟨x1, rfl⟩, p1, k1⟩ := ok_X6_place (wS := wS) (d + 2) hw [xs.getD (i + 1) 0, xs.getD (i + 2) 0, xs.getD (i + 3) 0] m rfl h.1 h.2.1
  obtain ⟨v2, m2, b1, ⟨x2, rfl⟩, p2, k2⟩ := ok_X7_place (wS := wS) (d + 2) hw [xs.getD (i + 1) 0, xs.getD (i + 2) 0, xs.getD (i + 3) 0] m1 rfl p1.1 p1.2.1
  have a1 : semZ shP wS (d + 30) 66 [.ref 0, .int (xs.getD (i + 1) 0), .int (xs.getD (i + 2) 0), .int (xs.getD (i + 3) 0)] m = some (some (.int x1), m1) := a1
  have b1 : semZ shP wS (d + 30) 158 [.ref 68, .int (xs.getD (i + 1) 0), .int (xs.getD (i + 2) 0), .int (xs.getD (i + 3) 0)] m1 = some (some (.int x2), m2) := b1
  refine ⟨m2, n, ⟨p2.1, p2.2.1, TR2 k1 k2 h.2.2.1 (by decide), SR2 k1 k2 h.2.2.2.1 (by decide), FR2 k1 k2 h.2.2.2.2.1 (by decide), LD2 k1 k2 h.2.2.2.2.2.1 (by decide), LT2 k1 k2 h.2.2.2.2.2.2 (by decide)⟩, ?_⟩
  rw [rn_eq, bL_757]
  simp only [EV, LV, CB, OI, OL, NP, CZ, popN, CT, OZ, List.map_nil, List.map_cons, List.sum_nil, List.sum_cons, Option.toList, List.nil_append, List.cons_append, Int.reduceToNat, Nat.reduceAdd, Nat.reduceLT, Nat.reduceLeDiff, List.length_cons, List.length_nil, Nat.zero_add, if_true, if_false, reduceIte, and_self, and_true, true_and, eq_self, reduceCtorEq, C0, C68, nk i, AL xs hl (j := i + 1) (by omega), AL xs hl (j := i + 2) (by omega), AL xs hl (j := i + 3) (by omega), a1, b1]
theorem lb_20 (hw : WOK wS) (hX : WX wS) {i : Nat} (hi : i + 5 ≤ xs.length) (hl : xs.length ≤ 2560) {m : Mm} {n : Nat} (h : LI m n) : ∃ (m' : Mm) (n' : Nat), LI m' n' ∧ rn shP (tb1 xs) mN mO (semZ shP wS (d + 30)) (some .boolean) (codeZ 186) 800 [.ref 3000, .ref 0, .ref 68, .int (nI i)] [] m = rn shP (tb1 xs) mN mO (semZ shP wS (d + 30)) (some .boolean) (codeZ 186) 1394 [.ref 3000, .ref 0, .ref 68, .int (nI i)] [] m' := by
  obtain ⟨v1, m1, a1, ⟨x1, rfl⟩, p1, k1⟩ := ok_X6_kin (wS := wS) (d + 2) hw [xs.getD (i + 1) 0, xs.getD (i + 2) 0] m rfl h.1 h.2.1
  obtain ⟨v2, m2, b1, ⟨x2, rfl⟩, p2, k2⟩ := ok_X7_kin (wS := wS) (d + 2) hw [xs.getD (i + 1) 0, xs.getD (i + 2) 0] m1 rfl p1.1 p1.2.1
  have a1 : semZ shP wS (d + 30) 67 [.ref 0, .int (xs.getD (i + 1) 0), .int (xs.getD (i + 2) 0)] m = some (some (.int x1), m1) := a1
  have b1 : semZ shP wS (d + 30) 159 [.ref 68, .int (xs.getD (i + 1) 0), .int (xs.getD (i + 2) 0)] m1 = some (some (.int x2), m2) := b1
  refine ⟨m2, n, ⟨p2.1, p2.2.1, TR2 k1 k2 h.2.2.1 (by decide), SR2 k1 k2 h.2.2.2.1 (by decide), FR2 k1 k2 h.2.2.2.2.1 (by decide), LD2 k1 k2 h.2.2.2.2.2.1 (by decide), LT2 k1 k2 h.2.2.2.2.2.2 (by decide)⟩, ?_⟩
  rw [rn_eq, bL_800]
  simp only [EV, LV, CB, OI, OL, NP, CZ, popN, CT, OZ, List.map_nil, List.map_cons, List.sum_nil, List.sum_cons, Option.toList, List.nil_append, List.cons_append, Int.reduceToNat, Nat.reduceAdd, Nat.reduceLT, Nat.reduceLeDiff, List.length_cons, List.length_nil, Nat.zero_add, if_true, if_false, reduceIte, and_self, and_true, true_and, eq_self, reduceCtorEq, C0, C68, nk i, AL xs hl (j := i + 1) (by omega), AL xs hl (j := i + 2) (by omega), a1, b1]
theorem lb_21 (hw : WOK wS) (hX : WX wS) {i : Nat} (hi : i + 5 ≤ xs.length) (hl : xs.length ≤ 2560) {m : Mm} {n : Nat} (h : LI m n) : ∃ (m' : Mm) (n' : Nat), LI m' n' ∧ rn shP (tb1 xs) mN mO (semZ shP wS (d + 30)) (some .boolean) (codeZ 186) 833 [.ref 3000, .ref 0, .ref 68, .int (nI i)] [] m = rn shP (tb1 xs) mN mO (semZ shP wS (d + 30)) (some .boolean) (codeZ 186) 1394 [.ref 3000, .ref 0, .ref 68, .int (nI i)] [] m' := by
  obtain ⟨v1, m1, a1, ⟨x1, rfl⟩, p1, k1⟩ := ok_X6_late (wS := wS) (d + 2) hw [xs.getD (i + 1) 0] m rfl h.1 h.2.1
  obtain ⟨v2, m2, b1, ⟨x2, rfl⟩, p2, k2⟩ := ok_X7_late (wS := wS) (d + 2) hw [xs.getD (i + 1) 0] m1 rfl p1.1 p1.2.1
  have a1 : semZ shP wS (d + 30) 68 [.ref 0, .int (xs.getD (i + 1) 0)] m = some (some (.int x1), m1) := a1
  have b1 : semZ shP wS (d + 30) 160 [.ref 68, .int (xs.getD (i + 1) 0)] m1 = some (some (.int x2), m2) := b1
  refine ⟨m2, n, ⟨p2.1, p2.2.1, TR2 k1 k2 h.2.2.1 (by decide), SR2 k1 k2 h.2.2.2.1 (by decide), FR2 k1 k2 h.2.2.2.2.1 (by decide), LD2 k1 k2 h.2.2.2.2.2.1 (by decide), LT2 k1 k2 h.2.2.2.2.2.2 (by decide)⟩, ?_⟩
  rw [rn_eq, bL_833]
  simp only [EV, LV, CB, OI, OL, NP, CZ, popN, CT, OZ, List.map_nil, List.map_cons, List.sum_nil, List.sum_cons, Option.toList, List.nil_append, List.cons_append, Int.reduceToNat, Nat.reduceAdd, Nat.reduceLT, Nat.reduceLeDiff, List.length_cons, List.length_nil, Nat.zero_add, if_true, if_false, reduceIte, and_self, and_true, true_and, eq_self, reduceCtorEq, C0, C68, nk i, AL xs hl (j := i + 1) (by omega), a1, b1]
theorem lb_22 (hw : WOK wS) (hX : WX wS) {i : Nat} (hi : i + 5 ≤ xs.length) (hl : xs.length ≤ 2560) {m : Mm} {n : Nat} (h : LI m n) : ∃ (m' : Mm) (n' : Nat), LI m' n' ∧ rn shP (tb1 xs) mN mO (semZ shP wS (d + 30)) (some .boolean) (codeZ 186) 856 [.ref 3000, .ref 0, .ref 68, .int (nI i)] [] m = rn shP (tb1 xs) mN mO (semZ shP wS (d + 30)) (some .boolean) (codeZ 186) 1394 [.ref 3000, .ref 0, .ref 68, .int (nI i)] [] m' := by
  obtain ⟨v1, m1, a1, ⟨x1, rfl⟩, p1, k1⟩ := ok_X6_order (wS := wS) (d + 2) hw [xs.getD (i + 1) 0, xs.getD (i + 2) 0] m rfl h.1 h.2.1
  obtain ⟨v2, m2, b1, ⟨x2, rfl⟩, p2, k2⟩ := ok_X7_order (wS := wS) (d + 2) hw [xs.getD (i + 1) 0, xs.getD (i + 2) 0] m1 rfl p1.1 p1.2.1
  have a1 : semZ shP wS (d + 30) 69 [.ref 0, .int (xs.getD (i + 1) 0), .int (xs.getD (i + 2) 0)] m = some (some (.int x1), m1) := a1
  have b1 : semZ shP wS (d + 30) 162 [.ref 68, .int (xs.getD (i + 1) 0), .int (xs.getD (i + 2) 0)] m1 = some (some (.int x2), m2) := b1
  refine ⟨m2, n, ⟨p2.1, p2.2.1, TR2 k1 k2 h.2.2.1 (by decide), SR2 k1 k2 h.2.2.2.1 (by decide), FR2 k1 k2 h.2.2.2.2.1 (by decide), LD2 k1 k2 h.2.2.2.2.2.1 (by decide), LT2 k1 k2 h.2.2.2.2.2.2 (by decide)⟩, ?_⟩
  rw [rn_eq, bL_856]
  simp only [EV, LV, CB, OI, OL, NP, CZ, popN, CT, OZ, List.map_nil, List.map_cons, List.sum_nil, List.sum_cons, Option.toList, List.nil_append, List.cons_append, Int.reduceToNat, Nat.reduceAdd, Nat.reduceLT, Nat.reduceLeDiff, List.length_cons, List.length_nil, Nat.zero_add, if_true, if_false, reduceIte, and_self, and_true, true_and, eq_self, reduceCtorEq, C0, C68, nk i, AL xs hl (j := i + 1) (by omega), AL xs hl (j := i + 2) (by omega), a1, b1]
theorem lb_23 (hw : WOK wS) (hX : WX wS) {i : Nat} (hi : i + 5 ≤ xs.length) (hl : xs.length ≤ 2560) {m : Mm} {n : Nat} (h : LI m n) : ∃ (m' : Mm) (n' : Nat), LI m' n' ∧ rn shP (tb1 xs) mN mO (semZ shP wS (d + 30)) (some .boolean) (codeZ 186) 889 [.ref 3000, .ref 0, .ref 68, .int (nI i)] [] m = rn shP (tb1 xs) mN mO (semZ shP wS (d + 30)) (some .boolean) (codeZ 186) 1394 [.ref 3000, .ref 0, .ref 68, .int (nI i)] [] m' := by
  obtain ⟨v1, m1, a1, ⟨x1, rfl⟩, p1, k1⟩ := ok_X6_mean (wS := wS) (d + 2) hw [xs.getD (i + 1) 0, xs.getD (i + 2) 0, xs.getD (i + 3) 0] m rfl h.1 h.2.1
  obtain ⟨v2, m2, b1, ⟨x2, rfl⟩, p2, k2⟩ := ok_X7_mean (wS := wS) (d + 2) [xs.getD (i + 1) 0, xs.getD (i + 2) 0, xs.getD (i + 3) 0] m1 rfl p1.1 p1.2.1
  have a1 : semZ shP wS (d + 30) 74 [.ref 0, .int (xs.getD (i + 1) 0), .int (xs.getD (i + 2) 0), .int (xs.getD (i + 3) 0)] m = some (some (.long x1), m1) := a1
  have b1 : semZ shP wS (d + 30) 166 [.ref 68, .int (xs.getD (i + 1) 0), .int (xs.getD (i + 2) 0), .int (xs.getD (i + 3) 0)] m1 = some (some (.long x2), m2) := b1
  refine ⟨m2, n, ⟨p2.1, p2.2.1, TR2 k1 k2 h.2.2.1 (by decide), SR2 k1 k2 h.2.2.2.1 (by decide), FR2 k1 k2 h.2.2.2.2.1 (by decide), LD2 k1 k2 h.2.2.2.2.2.1 (by decide), LT2 k1 k2 h.2.2.2.2.2.2 (by decide)⟩, ?_⟩
  rw [rn_eq, bL_889]
  simp only [EV, LV, CB, OI, OL, NP, CZ, popN, CT, OZ, List.map_nil, List.map_cons, List.sum_nil, List.sum_cons, Option.toList, List.nil_append, List.cons_append, Int.reduceToNat, Nat.reduceAdd, Nat.reduceLT, Nat.reduceLeDiff, List.length_cons, List.length_nil, Nat.zero_add, if_true, if_false, reduceIte, and_self, and_true, true_and, eq_self, reduceCtorEq, C0, C68, nk i, AL xs hl (j := i + 1) (by omega), AL xs hl (j := i + 2) (by omega), AL xs hl (j := i + 3) (by omega), a1, b1]
theorem lb_24 (hw : WOK wS) (hX : WX wS) {i : Nat} (hi : i + 5 ≤ xs.length) (hl : xs.length ≤ 2560) {m : Mm} {n : Nat} (h : LI m n) : ∃ (m' : Mm) (n' : Nat), LI m' n' ∧ rn shP (tb1 xs) mN mO (semZ shP wS (d + 30)) (some .boolean) (codeZ 186) 932 [.ref 3000, .ref 0, .ref 68, .int (nI i)] [] m = rn shP (tb1 xs) mN mO (semZ shP wS (d + 30)) (some .boolean) (codeZ 186) 1394 [.ref 3000, .ref 0, .ref 68, .int (nI i)] [] m' := by
  obtain ⟨v1, m1, a1, ⟨x1, rfl⟩, p1, k1⟩ := ok_X6_luck (wS := wS) (d + 2) hw [xs.getD (i + 1) 0, xs.getD (i + 2) 0, xs.getD (i + 3) 0, xs.getD (i + 4) 0] m rfl h.1 h.2.1
  obtain ⟨v2, m2, b1, ⟨x2, rfl⟩, p2, k2⟩ := ok_X7_luck (wS := wS) (d + 2) [xs.getD (i + 1) 0, xs.getD (i + 2) 0, xs.getD (i + 3) 0, xs.getD (i + 4) 0] m1 rfl p1.1 p1.2.1
  have a1 : semZ shP wS (d + 30) 75 [.ref 0, .int (xs.getD (i + 1) 0), .int (xs.getD (i + 2) 0), .int (xs.getD (i + 3) 0), .int (xs.getD (i + 4) 0)] m = some (some (.long x1), m1) := a1
  have b1 : semZ shP wS (d + 30) 167 [.ref 68, .int (xs.getD (i + 1) 0), .int (xs.getD (i + 2) 0), .int (xs.getD (i + 3) 0), .int (xs.getD (i + 4) 0)] m1 = some (some (.long x2), m2) := b1
  refine ⟨m2, n, ⟨p2.1, p2.2.1, TR2 k1 k2 h.2.2.1 (by decide), SR2 k1 k2 h.2.2.2.1 (by decide), FR2 k1 k2 h.2.2.2.2.1 (by decide), LD2 k1 k2 h.2.2.2.2.2.1 (by decide), LT2 k1 k2 h.2.2.2.2.2.2 (by decide)⟩, ?_⟩
  rw [rn_eq, bL_932]
  simp only [EV, LV, CB, OI, OL, NP, CZ, popN, CT, OZ, List.map_nil, List.map_cons, List.sum_nil, List.sum_cons, Option.toList, List.nil_append, List.cons_append, Int.reduceToNat, Nat.reduceAdd, Nat.reduceLT, Nat.reduceLeDiff, List.length_cons, List.length_nil, Nat.zero_add, if_true, if_false, reduceIte, and_self, and_true, true_and, eq_self, reduceCtorEq, C0, C68, nk i, AL xs hl (j := i + 1) (by omega), AL xs hl (j := i + 2) (by omega), AL xs hl (j := i + 3) (by omega), AL xs hl (j := i + 4) (by omega), a1, b1]
theorem lb_25 (hw : WOK wS) (hX : WX wS) {i : Nat} (hi : i + 5 ≤ xs.length) (hl : xs.length ≤ 2560) {m : Mm} {n : Nat} (h : LI m n) : ∃ (m' : Mm) (n' : Nat), LI m' n' ∧ rn shP (tb1 xs) mN mO (semZ shP wS (d + 30)) (some .boolean) (codeZ 186) 985 [.ref 3000, .ref 0, .ref 68, .int (nI i)] [] m = rn shP (tb1 xs) mN mO (semZ shP wS (d + 30)) (some .boolean) (codeZ 186) 1394 [.ref 3000, .ref 0, .ref 68, .int (nI i)] [] m' := by
  obtain ⟨v1, m1, a1, ⟨x1, rfl⟩, p1, k1⟩ := ok_X6_see (wS := wS) (d + 2) hw [xs.getD (i + 1) 0, xs.getD (i + 2) 0, xs.getD (i + 3) 0] m rfl h.1 h.2.1
  obtain ⟨v2, m2, b1, ⟨x2, rfl⟩, p2, k2⟩ := ok_X7_see (wS := wS) (d + 2) hw [xs.getD (i + 1) 0, xs.getD (i + 2) 0, xs.getD (i + 3) 0] m1 rfl p1.1 p1.2.1
  have a1 : semZ shP wS (d + 30) 82 [.ref 0, .int (xs.getD (i + 1) 0), .int (xs.getD (i + 2) 0), .int (xs.getD (i + 3) 0)] m = some (some (.int x1), m1) := a1
  have b1 : semZ shP wS (d + 30) 168 [.ref 68, .int (xs.getD (i + 1) 0), .int (xs.getD (i + 2) 0), .int (xs.getD (i + 3) 0)] m1 = some (some (.int x2), m2) := b1
  obtain ⟨V, N, l1, l2, l3, l4⟩ := h.2.2.2.2.2.1
  obtain ⟨y, m3, m4, c1, c2, hs⟩ := b_see (wS := wS) d (xs.getD (i + 1) 0) (xs.getD (i + 2) 0) (xs.getD (i + 3) 0) l1 l2
  obtain ⟨e1, e2⟩ := some_i (a1.symm.trans c1)
  cases e1
  subst e2
  obtain ⟨e3, e4⟩ := some_i (b1.symm.trans c2)
  cases e3
  subst e4
  refine ⟨m2, n, ⟨p2.1, p2.2.1, TR2 k1 k2 h.2.2.1 (by decide), SR2 k1 k2 h.2.2.2.1 (by decide), FR2 k1 k2 h.2.2.2.2.1 (by decide), ⟨V, N, LN2 k1 k2 l1 (by decide), hs, LM2 k1 k2 l3 (by omega) (by decide), LM2 k1 k2 l4 (by omega) (by decide)⟩, LT2 k1 k2 h.2.2.2.2.2.2 (by decide)⟩, ?_⟩
  rw [rn_eq, bL_985]
  simp only [EV, LV, CB, OI, OL, NP, CZ, popN, CT, OZ, List.map_nil, List.map_cons, List.sum_nil, List.sum_cons, Option.toList, List.nil_append, List.cons_append, Int.reduceToNat, Nat.reduceAdd, Nat.reduceLT, Nat.reduceLeDiff, List.length_cons, List.length_nil, Nat.zero_add, if_true, if_false, reduceIte, and_self, and_true, true_and, eq_self, reduceCtorEq, C0, C68, nk i, AL xs hl (j := i + 1) (by omega), AL xs hl (j := i + 2) (by omega), AL xs hl (j := i + 3) (by omega), a1, b1]
theorem lb_26 (hw : WOK wS) (hX : WX wS) {i : Nat} (hi : i + 5 ≤ xs.length) (hl : xs.length ≤ 2560) {m : Mm} {n : Nat} (h : LI m n) : ∃ (m' : Mm) (n' : Nat), LI m' n' ∧ rn shP (tb1 xs) mN mO (semZ shP wS (d + 30)) (some .boolean) (codeZ 186) 1028 [.ref 3000, .ref 0, .ref 68, .int (nI i)] [] m = rn shP (tb1 xs) mN mO (semZ shP wS (d + 30)) (some .boolean) (codeZ 186) 1394 [.ref 3000, .ref 0, .ref 68, .int (nI i)] [] m' := by
  obtain ⟨v1, m1, a1, ⟨x1, rfl⟩, p1, k1⟩ := ok_X6_forget (wS := wS) (d + 2) hw [xs.getD (i + 1) 0] m rfl h.1 h.2.1
  obtain ⟨v2, m2, b1, ⟨x2, rfl⟩, p2, k2⟩ := ok_X7_forget (wS := wS) (d + 2) hw [xs.getD (i + 1) 0] m1 rfl p1.1 p1.2.1
  have a1 : semZ shP wS (d + 30) 83 [.ref 0, .int (xs.getD (i + 1) 0)] m = some (some (.int x1), m1) := a1
  have b1 : semZ shP wS (d + 30) 169 [.ref 68, .int (xs.getD (i + 1) 0)] m1 = some (some (.int x2), m2) := b1
  obtain ⟨V, N, l1, l2, l3, l4⟩ := h.2.2.2.2.2.1
  obtain ⟨y, m3, m4, c1, c2, hs⟩ := b_forget (wS := wS) d (xs.getD (i + 1) 0) l2
  obtain ⟨e1, e2⟩ := some_i (a1.symm.trans c1)
  cases e1
  subst e2
  obtain ⟨e3, e4⟩ := some_i (b1.symm.trans c2)
  cases e3
  subst e4
  refine ⟨m2, n, ⟨p2.1, p2.2.1, TR2 k1 k2 h.2.2.1 (by decide), SR2 k1 k2 h.2.2.2.1 (by decide), FR2 k1 k2 h.2.2.2.2.1 (by decide), ⟨V, N, LN2 k1 k2 l1 (by decide), hs, LM2 k1 k2 l3 (by omega) (by decide), LM2 k1 k2 l4 (by omega) (by decide)⟩, LT2 k1 k2 h.2.2.2.2.2.2 (by decide)⟩, ?_⟩
  rw [rn_eq, bL_1028]
  simp only [EV, LV, CB, OI, OL, NP, CZ, popN, CT, OZ, List.map_nil, List.map_cons, List.sum_nil, List.sum_cons, Option.toList, List.nil_append, List.cons_append, Int.reduceToNat, Nat.reduceAdd, Nat.reduceLT, Nat.reduceLeDiff, List.length_cons, List.length_nil, Nat.zero_add, if_true, if_false, reduceIte, and_self, and_true, true_and, eq_self, reduceCtorEq, C0, C68, nk i, AL xs hl (j := i + 1) (by omega), a1, b1]
theorem lb_27 (hw : WOK wS) (hX : WX wS) {i : Nat} (hi : i + 5 ≤ xs.length) (hl : xs.length ≤ 2560) {m : Mm} {n : Nat} (h : LI m n) : ∃ (m' : Mm) (n' : Nat), LI m' n' ∧ rn shP (tb1 xs) mN mO (semZ shP wS (d + 30)) (some .boolean) (codeZ 186) 1051 [.ref 3000, .ref 0, .ref 68, .int (nI i)] [] m = rn shP (tb1 xs) mN mO (semZ shP wS (d + 30)) (some .boolean) (codeZ 186) 1394 [.ref 3000, .ref 0, .ref 68, .int (nI i)] [] m' := by
  obtain ⟨v1, m1, a1, ⟨x1, rfl⟩, p1, k1⟩ := ok_X6_kinds (wS := wS) (d + 2) hw [xs.getD (i + 1) 0] m rfl h.1 h.2.1
  obtain ⟨v2, m2, b1, ⟨x2, rfl⟩, p2, k2⟩ := ok_X7_kinds (wS := wS) (d + 2) hw [xs.getD (i + 1) 0] m1 rfl p1.1 p1.2.1
  have a1 : semZ shP wS (d + 30) 84 [.ref 0, .int (xs.getD (i + 1) 0)] m = some (some (.int x1), m1) := a1
  have b1 : semZ shP wS (d + 30) 172 [.ref 68, .int (xs.getD (i + 1) 0)] m1 = some (some (.int x2), m2) := b1
  refine ⟨m2, n, ⟨p2.1, p2.2.1, TR2 k1 k2 h.2.2.1 (by decide), SR2 k1 k2 h.2.2.2.1 (by decide), FR2 k1 k2 h.2.2.2.2.1 (by decide), LD2 k1 k2 h.2.2.2.2.2.1 (by decide), LT2 k1 k2 h.2.2.2.2.2.2 (by decide)⟩, ?_⟩
  rw [rn_eq, bL_1051]
  simp only [EV, LV, CB, OI, OL, NP, CZ, popN, CT, OZ, List.map_nil, List.map_cons, List.sum_nil, List.sum_cons, Option.toList, List.nil_append, List.cons_append, Int.reduceToNat, Nat.reduceAdd, Nat.reduceLT, Nat.reduceLeDiff, List.length_cons, List.length_nil, Nat.zero_add, if_true, if_false, reduceIte, and_self, and_true, true_and, eq_self, reduceCtorEq, C0, C68, nk i, AL xs hl (j := i + 1) (by omega), a1, b1]
theorem lb_28 (hw : WOK wS) (hX : WX wS) {i : Nat} (hi : i + 5 ≤ xs.length) (hl : xs.length ≤ 2560) {m : Mm} {n : Nat} (h : LI m n) : ∃ (m' : Mm) (n' : Nat), LI m' n' ∧ rn shP (tb1 xs) mN mO (semZ shP wS (d + 30)) (some .boolean) (codeZ 186) 1074 [.ref 3000, .ref 0, .ref 68, .int (nI i)] [] m = rn shP (tb1 xs) mN mO (semZ shP wS (d + 30)) (some .boolean) (codeZ 186) 1394 [.ref 3000, .ref 0, .ref 68, .int (nI i)] [] m' := by
  obtain ⟨v1, m1, a1, ⟨x1, rfl⟩, p1, k1⟩ := ok_X6_fathers (wS := wS) (d + 2) hw [xs.getD (i + 1) 0] m rfl h.1 h.2.1
  obtain ⟨v2, m2, b1, ⟨x2, rfl⟩, p2, k2⟩ := ok_X7_fathers (wS := wS) (d + 2) hw [xs.getD (i + 1) 0] m1 rfl p1.1 p1.2.1
  have a1 : semZ shP wS (d + 30) 85 [.ref 0, .int (xs.getD (i + 1) 0)] m = some (some (.int x1), m1) := a1
  have b1 : semZ shP wS (d + 30) 173 [.ref 68, .int (xs.getD (i + 1) 0)] m1 = some (some (.int x2), m2) := b1
  refine ⟨m2, n, ⟨p2.1, p2.2.1, TR2 k1 k2 h.2.2.1 (by decide), SR2 k1 k2 h.2.2.2.1 (by decide), FR2 k1 k2 h.2.2.2.2.1 (by decide), LD2 k1 k2 h.2.2.2.2.2.1 (by decide), LT2 k1 k2 h.2.2.2.2.2.2 (by decide)⟩, ?_⟩
  rw [rn_eq, bL_1074]
  simp only [EV, LV, CB, OI, OL, NP, CZ, popN, CT, OZ, List.map_nil, List.map_cons, List.sum_nil, List.sum_cons, Option.toList, List.nil_append, List.cons_append, Int.reduceToNat, Nat.reduceAdd, Nat.reduceLT, Nat.reduceLeDiff, List.length_cons, List.length_nil, Nat.zero_add, if_true, if_false, reduceIte, and_self, and_true, true_and, eq_self, reduceCtorEq, C0, C68, nk i, AL xs hl (j := i + 1) (by omega), a1, b1]
theorem lb_29 (hw : WOK wS) (hX : WX wS) {i : Nat} (hi : i + 5 ≤ xs.length) (hl : xs.length ≤ 2560) {m : Mm} {n : Nat} (h : LI m n) : ∃ (m' : Mm) (n' : Nat), LI m' n' ∧ rn shP (tb1 xs) mN mO (semZ shP wS (d + 30)) (some .boolean) (codeZ 186) 1097 [.ref 3000, .ref 0, .ref 68, .int (nI i)] [] m = rn shP (tb1 xs) mN mO (semZ shP wS (d + 30)) (some .boolean) (codeZ 186) 1394 [.ref 3000, .ref 0, .ref 68, .int (nI i)] [] m' := by
  obtain ⟨v1, m1, a1, ⟨x1, rfl⟩, p1, k1⟩ := ok_X6_look (wS := wS) (d + 2) hw [xs.getD (i + 1) 0, xs.getD (i + 2) 0] m rfl h.1 h.2.1
  obtain ⟨v2, m2, b1, ⟨x2, rfl⟩, p2, k2⟩ := ok_X7_look (wS := wS) (d + 2) hw [xs.getD (i + 1) 0, xs.getD (i + 2) 0] m1 rfl p1.1 p1.2.1
  have a1 : semZ shP wS (d + 30) 88 [.ref 0, .int (xs.getD (i + 1) 0), .int (xs.getD (i + 2) 0)] m = some (some (.int x1), m1) := a1
  have b1 : semZ shP wS (d + 30) 174 [.ref 68, .int (xs.getD (i + 1) 0), .int (xs.getD (i + 2) 0)] m1 = some (some (.int x2), m2) := b1
  refine ⟨m2, n, ⟨p2.1, p2.2.1, TR2 k1 k2 h.2.2.1 (by decide), SR2 k1 k2 h.2.2.2.1 (by decide), FR2 k1 k2 h.2.2.2.2.1 (by decide), LD2 k1 k2 h.2.2.2.2.2.1 (by decide), LT2 k1 k2 h.2.2.2.2.2.2 (by decide)⟩, ?_⟩
  rw [rn_eq, bL_1097]
  simp only [EV, LV, CB, OI, OL, NP, CZ, popN, CT, OZ, List.map_nil, List.map_cons, List.sum_nil, List.sum_cons, Option.toList, List.nil_append, List.cons_append, Int.reduceToNat, Nat.reduceAdd, Nat.reduceLT, Nat.reduceLeDiff, List.length_cons, List.length_nil, Nat.zero_add, if_true, if_false, reduceIte, and_self, and_true, true_and, eq_self, reduceCtorEq, C0, C68, nk i, AL xs hl (j := i + 1) (by omega), AL xs hl (j := i + 2) (by omega), a1, b1]
theorem lb_30 (hw : WOK wS) (hX : WX wS) {i : Nat} (hi : i + 5 ≤ xs.length) (hl : xs.length ≤ 2560) {m : Mm} {n : Nat} (h : LI m n) : ∃ (m' : Mm) (n' : Nat), LI m' n' ∧ rn shP (tb1 xs) mN mO (semZ shP wS (d + 30)) (some .boolean) (codeZ 186) 1130 [.ref 3000, .ref 0, .ref 68, .int (nI i)] [] m = rn shP (tb1 xs) mN mO (semZ shP wS (d + 30)) (some .boolean) (codeZ 186) 1394 [.ref 3000, .ref 0, .ref 68, .int (nI i)] [] m' := by
  obtain ⟨v1, m1, a1, ⟨x1, rfl⟩, p1, k1⟩ := ok_X6_drift (wS := wS) (d + 2) hw [xs.getD (i + 1) 0, xs.getD (i + 2) 0, xs.getD (i + 3) 0] m rfl h.1 h.2.1
  obtain ⟨v2, m2, b1, ⟨x2, rfl⟩, p2, k2⟩ := ok_X7_drift (wS := wS) (d + 2) hw [xs.getD (i + 1) 0, xs.getD (i + 2) 0, xs.getD (i + 3) 0] m1 rfl p1.1 p1.2.1
  have a1 : semZ shP wS (d + 30) 91 [.ref 0, .int (xs.getD (i + 1) 0), .int (xs.getD (i + 2) 0), .int (xs.getD (i + 3) 0)] m = some (some (.int x1), m1) := a1
  have b1 : semZ shP wS (d + 30) 175 [.ref 68, .int (xs.getD (i + 1) 0), .int (xs.getD (i + 2) 0), .int (xs.getD (i + 3) 0)] m1 = some (some (.int x2), m2) := b1
  obtain ⟨V, N, l1, l2, l3, l4⟩ := h.2.2.2.2.2.1
  obtain ⟨y, m3, m4, c1, c2, hs⟩ := b_drift (wS := wS) d (xs.getD (i + 1) 0) (xs.getD (i + 2) 0) (xs.getD (i + 3) 0) h.1 l1
  obtain ⟨e1, e2⟩ := some_i (a1.symm.trans c1)
  cases e1
  subst e2
  obtain ⟨e3, e4⟩ := some_i (b1.symm.trans c2)
  cases e3
  subst e4
  refine ⟨m2, n, ⟨p2.1, p2.2.1, TR2 k1 k2 h.2.2.1 (by decide), SR2 k1 k2 h.2.2.2.1 (by decide), FR2 k1 k2 h.2.2.2.2.1 (by decide), LD2 k1 k2 h.2.2.2.2.2.1 (by decide), LT2 k1 k2 h.2.2.2.2.2.2 (by decide)⟩, ?_⟩
  rw [rn_eq, bL_1130]
  simp only [EV, LV, CB, OI, OL, NP, CZ, popN, CT, OZ, List.map_nil, List.map_cons, List.sum_nil, List.sum_cons, Option.toList, List.nil_append, List.cons_append, Int.reduceToNat, Nat.reduceAdd, Nat.reduceLT, Nat.reduceLeDiff, List.length_cons, List.length_nil, Nat.zero_add, if_true, if_false, reduceIte, and_self, and_true, true_and, eq_self, reduceCtorEq, C0, C68, nk i, AL xs hl (j := i + 1) (by omega), AL xs hl (j := i + 2) (by omega), AL xs hl (j := i + 3) (by omega), a1, b1]
theorem lb_31 (hw : WOK wS) (hX : WX wS) {i : Nat} (hi : i + 5 ≤ xs.length) (hl : xs.length ≤ 2560) {m : Mm} {n : Nat} (h : LI m n) : ∃ (m' : Mm) (n' : Nat), LI m' n' ∧ rn shP (tb1 xs) mN mO (semZ shP wS (d + 30)) (some .boolean) (codeZ 186) 1173 [.ref 3000, .ref 0, .ref 68, .int (nI i)] [] m = rn shP (tb1 xs) mN mO (semZ shP wS (d + 30)) (some .boolean) (codeZ 186) 1394 [.ref 3000, .ref 0, .ref 68, .int (nI i)] [] m' := by
  obtain ⟨v1, m1, a1, ⟨x1, rfl⟩, p1, k1⟩ := ok_X6_keep (wS := wS) (d + 2) hw [xs.getD (i + 1) 0] m rfl h.1 h.2.1
  obtain ⟨v2, m2, b1, ⟨x2, rfl⟩, p2, k2⟩ := ok_X7_keep (wS := wS) (d + 2) hw [xs.getD (i + 1) 0] m1 rfl p1.1 p1.2.1
  have a1 : semZ shP wS (d + 30) 92 [.ref 0, .int (xs.getD (i + 1) 0)] m = some (some (.int x1), m1) := a1
  have b1 : semZ shP wS (d + 30) 177 [.ref 68, .int (xs.getD (i + 1) 0)] m1 = some (some (.int x2), m2) := b1
  obtain ⟨V, N, l1, l2, l3, l4⟩ := h.2.2.2.2.2.1
  obtain ⟨y, m3, m4, c1, c2, hs⟩ := b_keep (wS := wS) d (xs.getD (i + 1) 0) l1 l2 l3 l4
  obtain ⟨e1, e2⟩ := some_i (a1.symm.trans c1)
  cases e1
  subst e2
  obtain ⟨e3, e4⟩ := some_i (b1.symm.trans c2)
  cases e3
  subst e4
  refine ⟨m2, n, ⟨p2.1, p2.2.1, TR2 k1 k2 h.2.2.1 (by decide), SR2 k1 k2 h.2.2.2.1 (by decide), FR2 k1 k2 h.2.2.2.2.1 (by decide), ⟨V, N, LN2 k1 k2 l1 (by decide), LS2 k1 k2 l2 (by decide), hs.1, hs.2⟩, LT2 k1 k2 h.2.2.2.2.2.2 (by decide)⟩, ?_⟩
  rw [rn_eq, bL_1173]
  simp only [EV, LV, CB, OI, OL, NP, CZ, popN, CT, OZ, List.map_nil, List.map_cons, List.sum_nil, List.sum_cons, Option.toList, List.nil_append, List.cons_append, Int.reduceToNat, Nat.reduceAdd, Nat.reduceLT, Nat.reduceLeDiff, List.length_cons, List.length_nil, Nat.zero_add, if_true, if_false, reduceIte, and_self, and_true, true_and, eq_self, reduceCtorEq, C0, C68, nk i, AL xs hl (j := i + 1) (by omega), a1, b1]
theorem lb_32 (hw : WOK wS) (hX : WX wS) {i : Nat} (hi : i + 5 ≤ xs.length) (hl : xs.length ≤ 2560) {m : Mm} {n : Nat} (h : LI m n) : ∃ (m' : Mm) (n' : Nat), LI m' n' ∧ rn shP (tb1 xs) mN mO (semZ shP wS (d + 30)) (some .boolean) (codeZ 186) 1196 [.ref 3000, .ref 0, .ref 68, .int (nI i)] [] m = rn shP (tb1 xs) mN mO (semZ shP wS (d + 30)) (some .boolean) (codeZ 186) 1394 [.ref 3000, .ref 0, .ref 68, .int (nI i)] [] m' := by
  obtain ⟨v1, m1, a1, ⟨x1, rfl⟩, p1, k1⟩ := ok_X6_back (wS := wS) (d + 2) hw [xs.getD (i + 1) 0] m rfl h.1 h.2.1
  obtain ⟨v2, m2, b1, ⟨x2, rfl⟩, p2, k2⟩ := ok_X7_back (wS := wS) (d + 2) hw [xs.getD (i + 1) 0] m1 rfl p1.1 p1.2.1
  have a1 : semZ shP wS (d + 30) 93 [.ref 0, .int (xs.getD (i + 1) 0)] m = some (some (.int x1), m1) := a1
  have b1 : semZ shP wS (d + 30) 178 [.ref 68, .int (xs.getD (i + 1) 0)] m1 = some (some (.int x2), m2) := b1
  obtain ⟨V, N, l1, l2, l3, l4⟩ := h.2.2.2.2.2.1
  obtain ⟨y, m3, m4, c1, c2, hs⟩ := b_back (wS := wS) d (xs.getD (i + 1) 0) l1 l2 l3 l4
  obtain ⟨e1, e2⟩ := some_i (a1.symm.trans c1)
  cases e1
  subst e2
  obtain ⟨e3, e4⟩ := some_i (b1.symm.trans c2)
  cases e3
  subst e4
  obtain ⟨N1, hs, hs2⟩ := hs
  refine ⟨m2, n, ⟨p2.1, p2.2.1, TR2 k1 k2 h.2.2.1 (by decide), SR2 k1 k2 h.2.2.2.1 (by decide), FR2 k1 k2 h.2.2.2.2.1 (by decide), ⟨V, N1, hs, hs2, LM2 k1 k2 l3 (by omega) (by decide), LM2 k1 k2 l4 (by omega) (by decide)⟩, LT2 k1 k2 h.2.2.2.2.2.2 (by decide)⟩, ?_⟩
  rw [rn_eq, bL_1196]
  simp only [EV, LV, CB, OI, OL, NP, CZ, popN, CT, OZ, List.map_nil, List.map_cons, List.sum_nil, List.sum_cons, Option.toList, List.nil_append, List.cons_append, Int.reduceToNat, Nat.reduceAdd, Nat.reduceLT, Nat.reduceLeDiff, List.length_cons, List.length_nil, Nat.zero_add, if_true, if_false, reduceIte, and_self, and_true, true_and, eq_self, reduceCtorEq, C0, C68, nk i, AL xs hl (j := i + 1) (by omega), a1, b1]
theorem lb_33 (hw : WOK wS) (hX : WX wS) {i : Nat} (hi : i + 5 ≤ xs.length) (hl : xs.length ≤ 2560) {m : Mm} {n : Nat} (h : LI m n) : ∃ (m' : Mm) (n' : Nat), LI m' n' ∧ rn shP (tb1 xs) mN mO (semZ shP wS (d + 30)) (some .boolean) (codeZ 186) 1219 [.ref 3000, .ref 0, .ref 68, .int (nI i)] [] m = rn shP (tb1 xs) mN mO (semZ shP wS (d + 30)) (some .boolean) (codeZ 186) 1394 [.ref 3000, .ref 0, .ref 68, .int (nI i)] [] m' := by
  obtain ⟨v1, m1, a1, ⟨x1, rfl⟩, p1, k1⟩ := ok_X6_sheet (wS := wS) (d + 2) hw [xs.getD (i + 1) 0, xs.getD (i + 2) 0, xs.getD (i + 3) 0] m rfl h.1 h.2.1
  obtain ⟨v2, m2, b1, ⟨x2, rfl⟩, p2, k2⟩ := ok_X7_sheet (wS := wS) (d + 2) hw [xs.getD (i + 1) 0, xs.getD (i + 2) 0, xs.getD (i + 3) 0] m1 rfl p1.1 p1.2.1
  have a1 : semZ shP wS (d + 30) 94 [.ref 0, .int (xs.getD (i + 1) 0), .int (xs.getD (i + 2) 0), .int (xs.getD (i + 3) 0)] m = some (some (.int x1), m1) := a1
  have b1 : semZ shP wS (d + 30) 180 [.ref 68, .int (xs.getD (i + 1) 0), .int (xs.getD (i + 2) 0), .int (xs.getD (i + 3) 0)] m1 = some (some (.int x2), m2) := b1
  obtain ⟨V, N, l1, l2, l3, l4⟩ := h.2.2.2.2.2.1
  obtain ⟨y, m3, m4, c1, c2, hs⟩ := b_sheet (wS := wS) d (xs.getD (i + 1) 0) (xs.getD (i + 2) 0) (xs.getD (i + 3) 0) h.2.2.2.1
  obtain ⟨e1, e2⟩ := some_i (a1.symm.trans c1)
  cases e1
  subst e2
  obtain ⟨e3, e4⟩ := some_i (b1.symm.trans c2)
  cases e3
  subst e4
  refine ⟨m2, n, ⟨p2.1, p2.2.1, TR2 k1 k2 h.2.2.1 (by decide), hs, FR2 k1 k2 h.2.2.2.2.1 (by decide), LD2 k1 k2 h.2.2.2.2.2.1 (by decide), LT2 k1 k2 h.2.2.2.2.2.2 (by decide)⟩, ?_⟩
  rw [rn_eq, bL_1219]
  simp only [EV, LV, CB, OI, OL, NP, CZ, popN, CT, OZ, List.map_nil, List.map_cons, List.sum_nil, List.sum_cons, Option.toList, List.nil_append, List.cons_append, Int.reduceToNat, Nat.reduceAdd, Nat.reduceLT, Nat.reduceLeDiff, List.length_cons, List.length_nil, Nat.zero_add, if_true, if_false, reduceIte, and_self, and_true, true_and, eq_self, reduceCtorEq, C0, C68, nk i, AL xs hl (j := i + 1) (by omega), AL xs hl (j := i + 2) (by omega), AL xs hl (j := i + 3) (by omega), a1, b1]
theorem lb_34 (hw : WOK wS) (hX : WX wS) {i : Nat} (hi : i + 5 ≤ xs.length) (hl : xs.length ≤ 2560) {m : Mm} {n : Nat} (h : LI m n) : ∃ (m' : Mm) (n' : Nat), LI m' n' ∧ rn shP (tb1 xs) mN mO (semZ shP wS (d + 30)) (some .boolean) (codeZ 186) 1262 [.ref 3000, .ref 0, .ref 68, .int (nI i)] [] m = rn shP (tb1 xs) mN mO (semZ shP wS (d + 30)) (some .boolean) (codeZ 186) 1394 [.ref 3000, .ref 0, .ref 68, .int (nI i)] [] m' := by
  obtain ⟨v1, m1, a1, ⟨x1, rfl⟩, p1, k1⟩ := ok_X6_lay (wS := wS) (d + 2) hw [xs.getD (i + 1) 0, xs.getD (i + 2) 0, xs.getD (i + 3) 0] m rfl h.1 h.2.1
  obtain ⟨v2, m2, b1, ⟨x2, rfl⟩, p2, k2⟩ := ok_X7_lay (wS := wS) (d + 2) hw [xs.getD (i + 1) 0, xs.getD (i + 2) 0, xs.getD (i + 3) 0] m1 rfl p1.1 p1.2.1
  have a1 : semZ shP wS (d + 30) 95 [.ref 0, .int (xs.getD (i + 1) 0), .int (xs.getD (i + 2) 0), .int (xs.getD (i + 3) 0)] m = some (some (.int x1), m1) := a1
  have b1 : semZ shP wS (d + 30) 181 [.ref 68, .int (xs.getD (i + 1) 0), .int (xs.getD (i + 2) 0), .int (xs.getD (i + 3) 0)] m1 = some (some (.int x2), m2) := b1
  obtain ⟨V, N, l1, l2, l3, l4⟩ := h.2.2.2.2.2.1
  obtain ⟨y, m3, m4, c1, c2, hs⟩ := b_lay (wS := wS) d (xs.getD (i + 1) 0) (xs.getD (i + 2) 0) (xs.getD (i + 3) 0) h.1 h.2.2.2.1
  obtain ⟨e1, e2⟩ := some_i (a1.symm.trans c1)
  cases e1
  subst e2
  obtain ⟨e3, e4⟩ := some_i (b1.symm.trans c2)
  cases e3
  subst e4
  refine ⟨m2, n, ⟨p2.1, p2.2.1, TR2 k1 k2 h.2.2.1 (by decide), hs, FR2 k1 k2 h.2.2.2.2.1 (by decide), LD2 k1 k2 h.2.2.2.2.2.1 (by decide), LT2 k1 k2 h.2.2.2.2.2.2 (by decide)⟩, ?_⟩
  rw [rn_eq, bL_1262]
  simp only [EV, LV, CB, OI, OL, NP, CZ, popN, CT, OZ, List.map_nil, List.map_cons, List.sum_nil, List.sum_cons, Option.toList, List.nil_append, List.cons_append, Int.reduceToNat, Nat.reduceAdd, Nat.reduceLT, Nat.reduceLeDiff, List.length_cons, List.length_nil, Nat.zero_add, if_true, if_false, reduceIte, and_self, and_true, true_and, eq_self, reduceCtorEq, C0, C68, nk i, AL xs hl (j := i + 1) (by omega), AL xs hl (j := i + 2) (by omega), AL xs hl (j := i + 3) (by omega), a1, b1]
theorem lb_35 (hw : WOK wS) (hX : WX wS) {i : Nat} (hi : i + 5 ≤ xs.length) (hl : xs.length ≤ 2560) {m : Mm} {n : Nat} (h : LI m n) : ∃ (m' : Mm) (n' : Nat), LI m' n' ∧ rn shP (tb1 xs) mN mO (semZ shP wS (d + 30)) (some .boolean) (codeZ 186) 1305 [.ref 3000, .ref 0, .ref 68, .int (nI i)] [] m = rn shP (tb1 xs) mN mO (semZ shP wS (d + 30)) (some .boolean) (codeZ 186) 1394 [.ref 3000, .ref 0, .ref 68, .int (nI i)] [] m' := by
  obtain ⟨v1, m1, a1, ⟨x1, rfl⟩, p1, k1⟩ := ok_X6_read (wS := wS) (d + 2) [xs.getD (i + 1) 0, xs.getD (i + 2) 0, xs.getD (i + 3) 0, xs.getD (i + 4) 0] m rfl h.1 h.2.1
  obtain ⟨v2, m2, b1, ⟨x2, rfl⟩, p2, k2⟩ := ok_X7_read (wS := wS) (d + 2) [xs.getD (i + 1) 0, xs.getD (i + 2) 0, xs.getD (i + 3) 0, xs.getD (i + 4) 0] m1 rfl p1.1 p1.2.1
  have a1 : semZ shP wS (d + 30) 96 [.ref 0, .int (xs.getD (i + 1) 0), .int (xs.getD (i + 2) 0), .int (xs.getD (i + 3) 0), .int (xs.getD (i + 4) 0)] m = some (some (.int x1), m1) := a1
  have b1 : semZ shP wS (d + 30) 182 [.ref 68, .int (xs.getD (i + 1) 0), .int (xs.getD (i + 2) 0), .int (xs.getD (i + 3) 0), .int (xs.getD (i + 4) 0)] m1 = some (some (.int x2), m2) := b1
  obtain ⟨V, N, l1, l2, l3, l4⟩ := h.2.2.2.2.2.1
  obtain ⟨y, m3, m4, c1, c2, hs⟩ := b_read (wS := wS) d (xs.getD (i + 1) 0) (xs.getD (i + 2) 0) (xs.getD (i + 3) 0) (xs.getD (i + 4) 0) h.1 h.2.2.2.1 l1 h.2.2.2.2.2.2
  obtain ⟨e1, e2⟩ := some_i (a1.symm.trans c1)
  cases e1
  subst e2
  obtain ⟨e3, e4⟩ := some_i (b1.symm.trans c2)
  cases e3
  subst e4
  obtain ⟨⟨N1, hN1, hs⟩, hs2, hs3⟩ := hs
  refine ⟨m2, n, ⟨p2.1, p2.2.1, TR2 k1 k2 h.2.2.1 (by decide), SR2 k1 k2 h.2.2.2.1 (by decide), FR2 k1 k2 h.2.2.2.2.1 (by decide), ⟨V, N1, hs, LSn_N (LS3 k1 k2 l2 hs3 (by decide)) hN1, LM2 k1 k2 l3 (by omega) (by decide), LM2 k1 k2 l4 (by omega) (by decide)⟩, hs2⟩, ?_⟩
  rw [rn_eq, bL_1305]
  simp only [EV, LV, CB, OI, OL, NP, CZ, popN, CT, OZ, List.map_nil, List.map_cons, List.sum_nil, List.sum_cons, Option.toList, List.nil_append, List.cons_append, Int.reduceToNat, Nat.reduceAdd, Nat.reduceLT, Nat.reduceLeDiff, List.length_cons, List.length_nil, Nat.zero_add, if_true, if_false, reduceIte, and_self, and_true, true_and, eq_self, reduceCtorEq, C0, C68, nk i, AL xs hl (j := i + 1) (by omega), AL xs hl (j := i + 2) (by omega), AL xs hl (j := i + 3) (by omega), AL xs hl (j := i + 4) (by omega), a1, b1]
theorem lb_36 (hw : WOK wS) (hX : WX wS) {i : Nat} (hi : i + 5 ≤ xs.length) (hl : xs.length ≤ 2560) {m : Mm} {n : Nat} (h : LI m n) : ∃ (m' : Mm) (n' : Nat), LI m' n' ∧ rn shP (tb1 xs) mN mO (semZ shP wS (d + 30)) (some .boolean) (codeZ 186) 1358 [.ref 3000, .ref 0, .ref 68, .int (nI i)] [] m = rn shP (tb1 xs) mN mO (semZ shP wS (d + 30)) (some .boolean) (codeZ 186) 1394 [.ref 3000, .ref 0, .ref 68, .int (nI i)] [] m' := by
  obtain ⟨v1, m1, a1, ⟨x1, rfl⟩, p1, k1⟩ := ok_X6_torn (wS := wS) (d + 2) hw [] m rfl h.1 h.2.1
  obtain ⟨v2, m2, b1, ⟨x2, rfl⟩, p2, k2⟩ := ok_X7_torn (wS := wS) (d + 2) hw [] m1 rfl p1.1 p1.2.1
  have a1 : semZ shP wS (d + 30) 97 [.ref 0] m = some (some (.int x1), m1) := a1
  have b1 : semZ shP wS (d + 30) 183 [.ref 68] m1 = some (some (.int x2), m2) := b1
  obtain ⟨V, N, l1, l2, l3, l4⟩ := h.2.2.2.2.2.1
  obtain ⟨y, m3, m4, c1, c2, hs⟩ := b_torn (wS := wS) d  h.2.2.2.2.2.2
  obtain ⟨e1, e2⟩ := some_i (a1.symm.trans c1)
  cases e1
  subst e2
  obtain ⟨e3, e4⟩ := some_i (b1.symm.trans c2)
  cases e3
  subst e4
  refine ⟨m2, n, ⟨p2.1, p2.2.1, TR2 k1 k2 h.2.2.1 (by decide), SR2 k1 k2 h.2.2.2.1 (by decide), FR2 k1 k2 h.2.2.2.2.1 (by decide), LD2 k1 k2 h.2.2.2.2.2.1 (by decide), LT2 k1 k2 h.2.2.2.2.2.2 (by decide)⟩, ?_⟩
  rw [rn_eq, bL_1358]
  simp only [EV, LV, CB, OI, OL, NP, CZ, popN, CT, OZ, List.map_nil, List.map_cons, List.sum_nil, List.sum_cons, Option.toList, List.nil_append, List.cons_append, Int.reduceToNat, Nat.reduceAdd, Nat.reduceLT, Nat.reduceLeDiff, List.length_cons, List.length_nil, Nat.zero_add, if_true, if_false, reduceIte, and_self, and_true, true_and, eq_self, reduceCtorEq, C0, C68, nk i, a1, b1]
theorem lb_37 (hw : WOK wS) (hX : WX wS) {i : Nat} (hi : i + 5 ≤ xs.length) (hl : xs.length ≤ 2560) {m : Mm} {n : Nat} (h : LI m n) : ∃ (m' : Mm) (n' : Nat), LI m' n' ∧ rn shP (tb1 xs) mN mO (semZ shP wS (d + 30)) (some .boolean) (codeZ 186) 1371 [.ref 3000, .ref 0, .ref 68, .int (nI i)] [] m = rn shP (tb1 xs) mN mO (semZ shP wS (d + 30)) (some .boolean) (codeZ 186) 1394 [.ref 3000, .ref 0, .ref 68, .int (nI i)] [] m' := by
  obtain ⟨v1, m1, a1, ⟨x1, rfl⟩, p1, k1⟩ := ok_X6_count (wS := wS) (d + 2) hw [xs.getD (i + 1) 0] m rfl h.1 h.2.1
  obtain ⟨v2, m2, b1, ⟨x2, rfl⟩, p2, k2⟩ := ok_X7_count (wS := wS) (d + 2) hw [xs.getD (i + 1) 0] m1 rfl p1.1 p1.2.1
  have a1 : semZ shP wS (d + 30) 98 [.ref 0, .int (xs.getD (i + 1) 0)] m = some (some (.int x1), m1) := a1
  have b1 : semZ shP wS (d + 30) 184 [.ref 68, .int (xs.getD (i + 1) 0)] m1 = some (some (.int x2), m2) := b1
  refine ⟨m2, n, ⟨p2.1, p2.2.1, TR2 k1 k2 h.2.2.1 (by decide), SR2 k1 k2 h.2.2.2.1 (by decide), FR2 k1 k2 h.2.2.2.2.1 (by decide), LD2 k1 k2 h.2.2.2.2.2.1 (by decide), LT2 k1 k2 h.2.2.2.2.2.2 (by decide)⟩, ?_⟩
  rw [rn_eq, bL_1371]
  simp only [EV, LV, CB, OI, OL, NP, CZ, popN, CT, OZ, List.map_nil, List.map_cons, List.sum_nil, List.sum_cons, Option.toList, List.nil_append, List.cons_append, Int.reduceToNat, Nat.reduceAdd, Nat.reduceLT, Nat.reduceLeDiff, List.length_cons, List.length_nil, Nat.zero_add, if_true, if_false, reduceIte, and_self, and_true, true_and, eq_self, reduceCtorEq, C0, C68, nk i, AL xs hl (j := i + 1) (by omega), a1, b1]
theorem sw_law : ∀ t, t < 64 → swT 1394 0 37 #[200, 223, 246, 259, 272, 295, 328, 361, 404, 447, 480, 533, 556, 579, 612, 655, 678, 701, 724, 757, 800, 833, 856, 889, 932, 985, 1028, 1051, 1074, 1097, 1130, 1173, 1196, 1219, 1262, 1305, 1358, 1371] (nI t) = ([200, 223, 246, 259, 272, 295, 328, 361, 404, 447, 480, 533, 556, 579, 612, 655, 678, 701, 724, 757, 800, 833, 856, 889, 932, 985, 1028, 1051, 1074, 1097, 1130, 1173, 1196, 1219, 1262, 1305, 1358, 1371] : List Nat).getD t 1394 := by decide +kernel
theorem lb_all (hw : WOK wS) (hX : WX wS) {i : Nat} (hi : i + 5 ≤ xs.length) (hl : xs.length ≤ 2560) {m : Mm} {n : Nat} (h : LI m n) (t : Nat) (ht : t < 64) : ∃ (m' : Mm) (n' : Nat), LI m' n' ∧ rn shP (tb1 xs) mN mO (semZ shP wS (d + 30)) (some .boolean) (codeZ 186) (([200, 223, 246, 259, 272, 295, 328, 361, 404, 447, 480, 533, 556, 579, 612, 655, 678, 701, 724, 757, 800, 833, 856, 889, 932, 985, 1028, 1051, 1074, 1097, 1130, 1173, 1196, 1219, 1262, 1305, 1358, 1371] : List Nat).getD t 1394) [.ref 3000, .ref 0, .ref 68, .int (nI i)] [] m = rn shP (tb1 xs) mN mO (semZ shP wS (d + 30)) (some .boolean) (codeZ 186) 1394 [.ref 3000, .ref 0, .ref 68, .int (nI i)] [] m' := by
  match t, ht with
  | 0, _ => exact lb_0 d xs hw hX hi hl h
  | 1, _ => exact lb_1 d xs hw hX hi hl h
  | 2, _ => exact lb_2 d xs hw hX hi hl h
  | 3, _ => exact lb_3 d xs hw hX hi hl h
  | 4, _ => exact lb_4 d xs hw hX hi hl h
  | 5, _ => exact lb_5 d xs hw hX hi hl h
  | 6, _ => exact lb_6 d xs hw hX hi hl h
  | 7, _ => exact lb_7 d xs hw hX hi hl h
  | 8, _ => exact lb_8 d xs hw hX hi hl h
  | 9, _ => exact lb_9 d xs hw hX hi hl h
  | 10, _ => exact lb_10 d xs hw hX hi hl h
  | 11, _ => exact lb_11 d xs hw hX hi hl h
  | 12, _ => exact lb_12 d xs hw hX hi hl h
  | 13, _ => exact lb_13 d xs hw hX hi hl h
  | 14, _ => exact lb_14 d xs hw hX hi hl h
  | 15, _ => exact lb_15 d xs hw hX hi hl h
  | 16, _ => exact lb_16 d xs hw hX hi hl h
  | 17, _ => exact lb_17 d xs hw hX hi hl h
  | 18, _ => exact lb_18 d xs hw hX hi hl h
  | 19, _ => exact lb_19 d xs hw hX hi hl h
  | 20, _ => exact lb_20 d xs hw hX hi hl h
  | 21, _ => exact lb_21 d xs hw hX hi hl h
  | 22, _ => exact lb_22 d xs hw hX hi hl h
  | 23, _ => exact lb_23 d xs hw hX hi hl h
  | 24, _ => exact lb_24 d xs hw hX hi hl h
  | 25, _ => exact lb_25 d xs hw hX hi hl h
  | 26, _ => exact lb_26 d xs hw hX hi hl h
  | 27, _ => exact lb_27 d xs hw hX hi hl h
  | 28, _ => exact lb_28 d xs hw hX hi hl h
  | 29, _ => exact lb_29 d xs hw hX hi hl h
  | 30, _ => exact lb_30 d xs hw hX hi hl h
  | 31, _ => exact lb_31 d xs hw hX hi hl h
  | 32, _ => exact lb_32 d xs hw hX hi hl h
  | 33, _ => exact lb_33 d xs hw hX hi hl h
  | 34, _ => exact lb_34 d xs hw hX hi hl h
  | 35, _ => exact lb_35 d xs hw hX hi hl h
  | 36, _ => exact lb_36 d xs hw hX hi hl h
  | 37, _ => exact lb_37 d xs hw hX hi hl h
  | t + 38, _ => exact ⟨m, n, h, rfl⟩
theorem law_run (hw : WOK wS) (hX : WX wS) (hl : xs.length ≤ 2560) : ∀ (q i : Nat), xs.length ≤ i + q → i ≤ xs.length + 5 → ∀ (m : Mm) (n : Nat), LI m n → ∃ m', rn shP (tb1 xs) mN mO (semZ shP wS (d + 30)) (some .boolean) (codeZ 186) 18 [.ref 3000, .ref 0, .ref 68, .int (nI i)] [] m = some (some (.int 1), m') := by
  have hlen : ∀ (is : List ClassFile.Instr) (L st : List Value) (m : Mm) (K : KS), exI shP (tb1 xs) mN mO (semZ shP wS (d + 30)) (some .boolean) K (.arraylength :: is) L (.ref 3000 :: st) m = exI shP (tb1 xs) mN mO (semZ shP wS (d + 30)) (some .boolean) K is L (.int (nI xs.length) :: st) m := fun _ _ _ _ _ => rfl
  have hsub : (nI xs.length - 5).toInt = (xs.length : Int) - 5 := by
    rw [Int32.toInt_sub, nI_toInt (by omega), show (5 : Int32).toInt = 5 from by decide]
    exact bm32 (by omega) (by omega)
  intro q
  induction q using Nat.strongRecOn with
  | ind q ih =>
    intro i hq hi2 m n h
    by_cases hc : nI xs.length - 5 < nI i
    · refine ⟨m, ?_⟩
      rw [rn_eq, bL_18]
      simp only [EV, LV, CB, OI, OL, NP, CZ, popN, CT, OZ, List.map_nil, List.map_cons, List.sum_nil, List.sum_cons, Option.toList, List.nil_append, List.cons_append, Int.reduceToNat, Nat.reduceAdd, Nat.reduceLT, Nat.reduceLeDiff, List.length_cons, List.length_nil, Nat.zero_add, if_true, if_false, reduceIte, and_self, and_true, true_and, eq_self, reduceCtorEq, hlen, hc]
      rw [rn_eq, bL_1400]
      simp only [EV, LV, CB, OI, OL, NP, CZ, popN, CT, OZ, List.map_nil, List.map_cons, List.sum_nil, List.sum_cons, Option.toList, List.nil_append, List.cons_append, Int.reduceToNat, Nat.reduceAdd, Nat.reduceLT, Nat.reduceLeDiff, List.length_cons, List.length_nil, Nat.zero_add, if_true, if_false, reduceIte, and_self, and_true, true_and, eq_self, reduceCtorEq]
    · have hi : i + 5 ≤ xs.length := by
        have := Int32.le_iff_toInt_le.mp (Int32.not_lt.mp hc)
        rw [hsub, nI_toInt (by omega)] at this
        omega
      have hb := and_i (x := xs.getD i 0) (y := 63) (by decide)
      have eb : (63 : Int32).toInt = 63 := by decide
      have ev := i_nI hb.1
      have ht : (xs.getD i 0 &&& 63).toInt.toNat < 64 := by omega
      generalize (xs.getD i 0 &&& 63).toInt.toNat = t at ev ht
      obtain ⟨m', n', h', hr⟩ := lb_all d xs hw hX hi hl h t ht
      obtain ⟨m2, hm2⟩ := ih (q - 5) (by omega) (i + 5) (by omega) (by omega) m' n' h'
      refine ⟨m2, ?_⟩
      rw [rn_eq, bL_18]
      simp only [EV, LV, CB, OI, OL, NP, CZ, popN, CT, OZ, List.map_nil, List.map_cons, List.sum_nil, List.sum_cons, Option.toList, List.nil_append, List.cons_append, Int.reduceToNat, Nat.reduceAdd, Nat.reduceLT, Nat.reduceLeDiff, List.length_cons, List.length_nil, Nat.zero_add, if_true, if_false, reduceIte, and_self, and_true, true_and, eq_self, reduceCtorEq, hlen, hc, AL xs hl (j := i) (by omega), ev, sw_law t ht]
      rw [hr, rn_eq, bL_1394]
      simp only [EV, LV, CB, OI, OL, NP, CZ, popN, CT, OZ, List.map_nil, List.map_cons, List.sum_nil, List.sum_cons, Option.toList, List.nil_append, List.cons_append, Int.reduceToNat, Nat.reduceAdd, Nat.reduceLT, Nat.reduceLeDiff, List.length_cons, List.length_nil, Nat.zero_add, if_true, if_false, reduceIte, and_self, and_true, true_and, eq_self, reduceCtorEq, nk i]
      exact hm2
end Lw
