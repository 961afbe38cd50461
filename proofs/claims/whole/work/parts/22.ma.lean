/-! X11_init, X11_good, X11_standing, X11_goodOf -/
theorem lkN_RX11_9 : LkN RX11 9 7 16 := ⟨RX7, TX7, fc7, ⟨tyX7, tyX7_ok, by decide +kernel⟩, (t1_in 29 (by decide +kernel) rfl), (t1_in 30 (by decide +kernel) rfl), (t1_in 2 (by decide +kernel) rfl)⟩
theorem lkIN_RX11_11 : LkIN RX11 11 yX7_init "UnlikeNeighbours" cX7_init 1 0 := ⟨l1_in 31 (by decide +kernel), (t1_in 32 (by decide +kernel) rfl), (t1_in 33 (by decide +kernel) rfl), (t1_in 2 (by decide +kernel) rfl), rfl, by decide, by decide +kernel⟩
theorem lkQ_RX11_12_11 : LkQ RX11 12 11 0 (.object "UnlikeNeighbours$Shed") := ⟨RX11, TX11, 12, "UnlikeNeighbours", fc11, by decide, (t1_in 233 (by decide +kernel) rfl), Or.inl rfl, rfl, rfl, by decide +kernel⟩
theorem lkQ_RX11_16_11 : LkQ RX11 16 11 1 (.object "UnlikeNeighbours$Shed") := ⟨RX11, TX11, 12, "UnlikeNeighbours", fc11, by decide, (t1_in 234 (by decide +kernel) rfl), Or.inl rfl, rfl, rfl, by decide +kernel⟩
theorem lkN_RX11_19 : LkN RX11 19 3 7 := ⟨RX3, TX3, fc3, ⟨tyX3, tyX3_ok, by decide +kernel⟩, (t1_in 138 (by decide +kernel) rfl), (t1_in 139 (by decide +kernel) rfl), (t1_in 4 (by decide +kernel) rfl)⟩
theorem lkIN_RX11_21 : LkIN RX11 21 yX3_init "UnlikeNeighbours" cX3_init 1 0 := ⟨l1_in 140 (by decide +kernel), (t1_in 141 (by decide +kernel) rfl), (t1_in 142 (by decide +kernel) rfl), (t1_in 4 (by decide +kernel) rfl), rfl, by decide, by decide +kernel⟩
theorem lkQ_RX11_22_11 : LkQ RX11 22 11 3 (.object "UnlikeNeighbours$Reader") := ⟨RX11, TX11, 12, "UnlikeNeighbours", fc11, by decide, (t1_in 236 (by decide +kernel) rfl), Or.inl rfl, rfl, rfl, by decide +kernel⟩
theorem lkN_RX11_26 : LkN RX11 26 2 11 := ⟨RX2, TX2, fc2, ⟨tyX2, tyX2_ok, by decide +kernel⟩, (t1_in 170 (by decide +kernel) rfl), (t1_in 171 (by decide +kernel) rfl), (t1_in 5 (by decide +kernel) rfl)⟩
theorem lkF_RX11_12_11 : LkF RX11 12 11 0 := ⟨RX11, TX11, 12, "UnlikeNeighbours", fc11, by decide, (t1_in 233 (by decide +kernel) rfl), Or.inl rfl⟩
theorem lkI_RX11_28 : LkI RX11 28 yX2_init cX2_init 2 1 := ⟨(t1_in 172 (by decide +kernel) rfl), (t1_in 173 (by decide +kernel) rfl), (t1_in 174 (by decide +kernel) rfl), (t1_in 5 (by decide +kernel) rfl), rfl, by decide, by decide +kernel⟩
theorem lkQ_RX11_31_11 : LkQ RX11 31 11 4 (.object "UnlikeNeighbours$Orders") := ⟨RX11, TX11, 12, "UnlikeNeighbours", fc11, by decide, (t1_in 237 (by decide +kernel) rfl), Or.inl rfl, rfl, rfl, by decide +kernel⟩
theorem lkQ_RX11_35_11 : LkQ RX11 35 11 5 (.array .int) := ⟨RX11, TX11, 12, "UnlikeNeighbours", fc11, by decide, (t1_in 238 (by decide +kernel) rfl), Or.inl rfl, rfl, rfl, by decide +kernel⟩
theorem lkQ_RX11_41_11 : LkQ RX11 41 11 7 (.array (.object "UnlikeNeighbours$Sheet")) := ⟨RX11, TX11, 12, "UnlikeNeighbours", fc11, by decide, (t2_in 0 (by decide +kernel) rfl), Or.inl rfl, rfl, rfl, by decide +kernel⟩
theorem lkQ_RX11_45_11 : LkQ RX11 45 11 8 (.array .int) := ⟨RX11, TX11, 12, "UnlikeNeighbours", fc11, by decide, (t2_in 1 (by decide +kernel) rfl), Or.inl rfl, rfl, rfl, by decide +kernel⟩
theorem lkQ_RX11_48_11 : LkQ RX11 48 11 9 (.array .int) := ⟨RX11, TX11, 12, "UnlikeNeighbours", fc11, by decide, (t2_in 2 (by decide +kernel) rfl), Or.inl rfl, rfl, rfl, by decide +kernel⟩
theorem lkQ_RX11_51_11 : LkQ RX11 51 11 10 (.array .int) := ⟨RX11, TX11, 12, "UnlikeNeighbours", fc11, by decide, (t2_in 3 (by decide +kernel) rfl), Or.inl rfl, rfl, rfl, by decide +kernel⟩
theorem lkF_RX11_41_11 : LkF RX11 41 11 7 := ⟨RX11, TX11, 12, "UnlikeNeighbours", fc11, by decide, (t2_in 0 (by decide +kernel) rfl), Or.inl rfl⟩
theorem lkN_RX11_39 : LkN RX11 39 8 3 := ⟨RX8, TX8, fc8, ⟨tyX8, tyX8_ok, by decide +kernel⟩, (t1_in 213 (by decide +kernel) rfl), (t1_in 215 (by decide +kernel) rfl), (t1_in 6 (by decide +kernel) rfl)⟩
theorem lkIN_RX11_54 : LkIN RX11 54 yX8_init "UnlikeNeighbours" cX8_init 1 0 := ⟨l1_in 216 (by decide +kernel), (t1_in 217 (by decide +kernel) rfl), (t1_in 218 (by decide +kernel) rfl), (t1_in 6 (by decide +kernel) rfl), rfl, by decide, by decide +kernel⟩
theorem lkF_RX11_45_11 : LkF RX11 45 11 8 := ⟨RX11, TX11, 12, "UnlikeNeighbours", fc11, by decide, (t2_in 1 (by decide +kernel) rfl), Or.inl rfl⟩
theorem dX11_init_0 : decode cX11_init 0 = .ok (.aload_n 0, 1) := by decide +kernel
theorem dX11_init_1 : decode cX11_init 1 = .ok (.invokespecial 3, 3) := by decide +kernel
theorem dX11_init_4 : decode cX11_init 4 = .ok (.aload_n 0, 1) := by decide +kernel
theorem dX11_init_5 : decode cX11_init 5 = .ok (.new 9, 3) := by decide +kernel
theorem dX11_init_8 : decode cX11_init 8 = .ok (.dup, 1) := by decide +kernel
theorem dX11_init_9 : decode cX11_init 9 = .ok (.invokespecial 11, 3) := by decide +kernel
theorem dX11_init_12 : decode cX11_init 12 = .ok (.putfield 12, 3) := by decide +kernel
theorem dX11_init_15 : decode cX11_init 15 = .ok (.aload_n 0, 1) := by decide +kernel
theorem dX11_init_16 : decode cX11_init 16 = .ok (.new 9, 3) := by decide +kernel
theorem dX11_init_19 : decode cX11_init 19 = .ok (.dup, 1) := by decide +kernel
theorem dX11_init_20 : decode cX11_init 20 = .ok (.invokespecial 11, 3) := by decide +kernel
theorem dX11_init_23 : decode cX11_init 23 = .ok (.putfield 16, 3) := by decide +kernel
theorem dX11_init_26 : decode cX11_init 26 = .ok (.aload_n 0, 1) := by decide +kernel
theorem dX11_init_27 : decode cX11_init 27 = .ok (.new 19, 3) := by decide +kernel
theorem dX11_init_30 : decode cX11_init 30 = .ok (.dup, 1) := by decide +kernel
theorem dX11_init_31 : decode cX11_init 31 = .ok (.invokespecial 21, 3) := by decide +kernel
theorem dX11_init_34 : decode cX11_init 34 = .ok (.putfield 22, 3) := by decide +kernel
theorem dX11_init_37 : decode cX11_init 37 = .ok (.aload_n 0, 1) := by decide +kernel
theorem dX11_init_38 : decode cX11_init 38 = .ok (.new 26, 3) := by decide +kernel
theorem dX11_init_41 : decode cX11_init 41 = .ok (.dup, 1) := by decide +kernel
theorem dX11_init_42 : decode cX11_init 42 = .ok (.aload_n 0, 1) := by decide +kernel
theorem dX11_init_43 : decode cX11_init 43 = .ok (.getfield 12, 3) := by decide +kernel
theorem dX11_init_46 : decode cX11_init 46 = .ok (.invokespecial 28, 3) := by decide +kernel
theorem dX11_init_49 : decode cX11_init 49 = .ok (.putfield 31, 3) := by decide +kernel
theorem dX11_init_52 : decode cX11_init 52 = .ok (.aload_n 0, 1) := by decide +kernel
theorem dX11_init_53 : decode cX11_init 53 = .ok (.bipush 27, 2) := by decide +kernel
theorem dX11_init_55 : decode cX11_init 55 = .ok (.newarray .int, 2) := by decide +kernel
theorem dX11_init_57 : decode cX11_init 57 = .ok (.putfield 35, 3) := by decide +kernel
theorem dX11_init_60 : decode cX11_init 60 = .ok (.aload_n 0, 1) := by decide +kernel
theorem dX11_init_61 : decode cX11_init 61 = .ok (.iconst 4, 1) := by decide +kernel
theorem dX11_init_62 : decode cX11_init 62 = .ok (.anewarray 39, 3) := by decide +kernel
theorem dX11_init_65 : decode cX11_init 65 = .ok (.putfield 41, 3) := by decide +kernel
theorem dX11_init_68 : decode cX11_init 68 = .ok (.aload_n 0, 1) := by decide +kernel
theorem dX11_init_69 : decode cX11_init 69 = .ok (.iconst 4, 1) := by decide +kernel
theorem dX11_init_70 : decode cX11_init 70 = .ok (.newarray .int, 2) := by decide +kernel
theorem dX11_init_72 : decode cX11_init 72 = .ok (.putfield 45, 3) := by decide +kernel
theorem dX11_init_75 : decode cX11_init 75 = .ok (.aload_n 0, 1) := by decide +kernel
theorem dX11_init_76 : decode cX11_init 76 = .ok (.iconst 4, 1) := by decide +kernel
theorem dX11_init_77 : decode cX11_init 77 = .ok (.newarray .int, 2) := by decide +kernel
theorem dX11_init_79 : decode cX11_init 79 = .ok (.putfield 48, 3) := by decide +kernel
theorem dX11_init_82 : decode cX11_init 82 = .ok (.aload_n 0, 1) := by decide +kernel
theorem dX11_init_83 : decode cX11_init 83 = .ok (.iconst 4, 1) := by decide +kernel
theorem dX11_init_84 : decode cX11_init 84 = .ok (.newarray .int, 2) := by decide +kernel
theorem dX11_init_86 : decode cX11_init 86 = .ok (.putfield 51, 3) := by decide +kernel
theorem dX11_init_89 : decode cX11_init 89 = .ok (.iconst 0, 1) := by decide +kernel
theorem dX11_init_90 : decode cX11_init 90 = .ok (.istore_n 1, 1) := by decide +kernel
theorem dX11_init_91 : decode cX11_init 91 = .ok (.iload_n 1, 1) := by decide +kernel
theorem dX11_init_92 : decode cX11_init 92 = .ok (.iconst 4, 1) := by decide +kernel
theorem dX11_init_93 : decode cX11_init 93 = .ok (.if_icmp .ge 22, 3) := by decide +kernel
theorem dX11_init_96 : decode cX11_init 96 = .ok (.aload_n 0, 1) := by decide +kernel
theorem dX11_init_97 : decode cX11_init 97 = .ok (.getfield 41, 3) := by decide +kernel
theorem dX11_init_100 : decode cX11_init 100 = .ok (.iload_n 1, 1) := by decide +kernel
theorem dX11_init_101 : decode cX11_init 101 = .ok (.new 39, 3) := by decide +kernel
theorem dX11_init_104 : decode cX11_init 104 = .ok (.dup, 1) := by decide +kernel
theorem dX11_init_105 : decode cX11_init 105 = .ok (.invokespecial 54, 3) := by decide +kernel
theorem dX11_init_108 : decode cX11_init 108 = .ok (.aastore, 1) := by decide +kernel
theorem dX11_init_109 : decode cX11_init 109 = .ok (.iinc 1 1, 3) := by decide +kernel
theorem dX11_init_112 : decode cX11_init 112 = .ok (.goto (-21), 3) := by decide +kernel
theorem dX11_init_115 : decode cX11_init 115 = .ok (.iconst 0, 1) := by decide +kernel
theorem dX11_init_116 : decode cX11_init 116 = .ok (.istore_n 1, 1) := by decide +kernel
theorem dX11_init_117 : decode cX11_init 117 = .ok (.iload_n 1, 1) := by decide +kernel
theorem dX11_init_118 : decode cX11_init 118 = .ok (.iconst 4, 1) := by decide +kernel
theorem dX11_init_119 : decode cX11_init 119 = .ok (.if_icmp .ge 16, 3) := by decide +kernel
theorem dX11_init_122 : decode cX11_init 122 = .ok (.aload_n 0, 1) := by decide +kernel
theorem dX11_init_123 : decode cX11_init 123 = .ok (.getfield 45, 3) := by decide +kernel
theorem dX11_init_126 : decode cX11_init 126 = .ok (.iload_n 1, 1) := by decide +kernel
theorem dX11_init_127 : decode cX11_init 127 = .ok (.iconst 2, 1) := by decide +kernel
theorem dX11_init_128 : decode cX11_init 128 = .ok (.iastore, 1) := by decide +kernel
theorem dX11_init_129 : decode cX11_init 129 = .ok (.iinc 1 1, 3) := by decide +kernel
theorem dX11_init_132 : decode cX11_init 132 = .ok (.goto (-15), 3) := by decide +kernel
theorem dX11_init_135 : decode cX11_init 135 = .ok (.return_, 1) := by decide +kernel
def f_X11_init   (S : Sh) (R : Rw) (I : Iw) (a0 : Nat) : Option ((Sh × Rw × Iw)) := lt S.length (fun q1 => lt (S ++ [(7, 16)]) (fun S2 => lt (setA R q1 (fun _ => none)) (fun R3 => lt (setA I q1 (fun _ => 0)) (fun I4 => bd (f_X7_init S2 R3 I4 q1) (fun r6 => gp (sok r6.1 a0 11 12) (lt (up2 r6.2.1 a0 0 (some (.inl q1))) (fun R8 => lt r6.1.length (fun q9 => lt (r6.1 ++ [(7, 16)]) (fun S10 => lt (setA R8 q9 (fun _ => none)) (fun R11 => lt (setA r6.2.2 q9 (fun _ => 0)) (fun I12 => bd (f_X7_init S10 R11 I12 q9) (fun r14 => gp (sok r14.1 a0 11 12) (lt (up2 r14.2.1 a0 1 (some (.inl q9))) (fun R16 => lt r14.1.length (fun q17 => lt (r14.1 ++ [(3, 7)]) (fun S18 => lt (setA R16 q17 (fun _ => none)) (fun R19 => lt (setA r14.2.2 q17 (fun _ => 0)) (fun I20 => bd (f_X3_init S18 R19 I20 q17) (fun r22 => gp (sok r22.1 a0 11 12) (lt (up2 r22.2.1 a0 3 (some (.inl q17))) (fun R24 => lt r22.1.length (fun q25 => lt (r22.1 ++ [(2, 11)]) (fun S26 => lt (setA R24 q25 (fun _ => none)) (fun R27 => lt (setA r22.2.2 q25 (fun _ => 0)) (fun I28 => gp (sok S26 a0 11 12) (rl (R27 a0 0) (fun b31 => bd (f_X2_init S26 R27 I28 q25 b31) (fun r32 => gp (sok r32.1 a0 11 12) (lt (up2 r32.2.1 a0 4 (some (.inl q25))) (fun R34 => lt r32.1.length (fun q35 => lt (r32.1 ++ [(20, 27)]) (fun S36 => lt (setA R34 q35 (fun _ => none)) (fun R37 => lt (setA r32.2.2 q35 (fun _ => 0)) (fun I38 => gp (sok S36 a0 11 12) (lt (up2 R37 a0 5 (some (.inl q35))) (fun R41 => lt S36.length (fun q42 => lt (S36 ++ [(23, 4)]) (fun S43 => lt (setA R41 q42 (fun _ => none)) (fun R44 => lt (setA I38 q42 (fun _ => 0)) (fun I45 => gp (sok S43 a0 11 12) (lt (up2 R44 a0 7 (some (.inl q42))) (fun R48 => lt S43.length (fun q49 => lt (S43 ++ [(20, 4)]) (fun S50 => lt (setA R48 q49 (fun _ => none)) (fun R51 => lt (setA I45 q49 (fun _ => 0)) (fun I52 => gp (sok S50 a0 11 12) (lt (up2 R51 a0 8 (some (.inl q49))) (fun R55 => lt S50.length (fun q56 => lt (S50 ++ [(20, 4)]) (fun S57 => lt (setA R55 q56 (fun _ => none)) (fun R58 => lt (setA I52 q56 (fun _ => 0)) (fun I59 => gp (sok S57 a0 11 12) (lt (up2 R58 a0 9 (some (.inl q56))) (fun R62 => lt S57.length (fun q63 => lt (S57 ++ [(20, 4)]) (fun S64 => lt (setA R62 q63 (fun _ => none)) (fun R65 => lt (setA I59 q63 (fun _ => 0)) (fun I66 => gp (sok S64 a0 11 12) (lt (up2 R65 a0 10 (some (.inl q63))) (fun R69 => rl (R69 a0 7) (fun b71 => lt S64.length (fun q72 => lt (S64 ++ [(8, 3)]) (fun S73 => lt (setA R69 q72 (fun _ => none)) (fun R74 => lt (setA I66 q72 (fun _ => 0)) (fun I75 => bd (f_X8_init S73 R74 I75 q72) (fun r77 => gp (aok r77.1 23 b71 (0 : Int32)) (gp (sok r77.1 q72 8 3) (lt (up2 r77.2.1 b71 (0 : Int32).toNatClampNeg (some (.inl q72))) (fun R79 => gp (sok r77.1 a0 11 12) (rl (R79 a0 7) (fun b83 => lt r77.1.length (fun q84 => lt (r77.1 ++ [(8, 3)]) (fun S85 => lt (setA R79 q84 (fun _ => none)) (fun R86 => lt (setA r77.2.2 q84 (fun _ => 0)) (fun I87 => bd (f_X8_init S85 R86 I87 q84) (fun r89 => gp (aok r89.1 23 b83 (1 : Int32)) (gp (sok r89.1 q84 8 3) (lt (up2 r89.2.1 b83 (1 : Int32).toNatClampNeg (some (.inl q84))) (fun R91 => gp (sok r89.1 a0 11 12) (rl (R91 a0 7) (fun b95 => lt r89.1.length (fun q96 => lt (r89.1 ++ [(8, 3)]) (fun S97 => lt (setA R91 q96 (fun _ => none)) (fun R98 => lt (setA r89.2.2 q96 (fun _ => 0)) (fun I99 => bd (f_X8_init S97 R98 I99 q96) (fun r101 => gp (aok r101.1 23 b95 (2 : Int32)) (gp (sok r101.1 q96 8 3) (lt (up2 r101.2.1 b95 (2 : Int32).toNatClampNeg (some (.inl q96))) (fun R103 => gp (sok r101.1 a0 11 12) (rl (R103 a0 7) (fun b107 => lt r101.1.length (fun q108 => lt (r101.1 ++ [(8, 3)]) (fun S109 => lt (setA R103 q108 (fun _ => none)) (fun R110 => lt (setA r101.2.2 q108 (fun _ => 0)) (fun I111 => bd (f_X8_init S109 R110 I111 q108) (fun r113 => gp (aok r113.1 23 b107 (3 : Int32)) (gp (sok r113.1 q108 8 3) (lt (up2 r113.2.1 b107 (3 : Int32).toNatClampNeg (some (.inl q108))) (fun R115 => gp (sok r113.1 a0 11 12) (rl (R115 a0 8) (fun b120 => gp (aok r113.1 20 b120 (0 : Int32)) (lt (up2 r113.2.2 b120 (0 : Int32).toNatClampNeg (2 : Int32)) (fun I122 => rl (R115 a0 8) (fun b124 => gp (aok r113.1 20 b124 (1 : Int32)) (lt (up2 I122 b124 (1 : Int32).toNatClampNeg (2 : Int32)) (fun I126 => rl (R115 a0 8) (fun b128 => gp (aok r113.1 20 b128 (2 : Int32)) (lt (up2 I126 b128 (2 : Int32).toNatClampNeg (2 : Int32)) (fun I130 => rl (R115 a0 8) (fun b132 => gp (aok r113.1 20 b132 (3 : Int32)) (lt (up2 I130 b132 (3 : Int32).toNatClampNeg (2 : Int32)) (fun I134 => some (r113.1, R115, I134)))))))))))))))))))))))))))))))))))))))))))))))))))))))))))))))))))))))))))))))))))))))))))))))))))))))))))))))))
set_option maxHeartbeats 4000000 in
theorem b_X11_init {E : Ev} {p : Program} {l : Launch} {e : Env} {s : State} {m : MethodId} {args : Array Value} {below : List Frame} {meth : Method} {c : Code} (C : Cx E RX11 cX11_init 2 p s m c) (hr : meth.sig.returnType = none) (hk : meth.locks = false) (hin : meth.name = "<init>") {r : (Sh × Rw × Iw)}  : ∀ (S : Sh) (R : Rw) (I : Iw) (a0 : Nat), f_X11_init    S R I a0 = some r → Wk E 2 p l e ({ frames := 3, cells := 64, slots := 27865, locals := 60 } : Room) s m args below meth c 0 0 (MQ below (Qw E r.1 r.2.1 r.2.2 none) args s 64 27865 (fun q => E.1 ≤ q)) 0 [(0, .ref (E.1 + a0))] [] S R I := by
  intro S R I a0 h
  rw [f_X11_init] at h
  refine k_aloadn (pc := 0) C dX11_init_0 (i := 0) rfl 0 rfl ?_
  refine k_objInit (pc := 1) C (t1_in 26 (by decide +kernel) rfl) (t1_in 27 (by decide +kernel) rfl) (t1_in 28 (by decide +kernel) rfl) (Nat.le_of_ble_eq_true rfl) (Nat.le_of_ble_eq_true rfl) (Nat.le_of_ble_eq_true rfl) dX11_init_1 ?_
  refine k_aloadn (pc := 4) C dX11_init_4 (i := 0) rfl 0 rfl ?_
  obtain ⟨q1, eq1, h⟩ := lt_e h
  obtain ⟨S2, eS2, h⟩ := lt_e h
  obtain ⟨R3, eR3, h⟩ := lt_e h
  obtain ⟨I4, eI4, h⟩ := lt_e h
  refine k_new (pc := 5) C lkN_RX11_9 (Nat.le_of_ble_eq_true rfl) (Nat.le_of_ble_eq_true rfl) dX11_init_5 ?_
  rw [← eq1, ← eS2, ← eR3, ← eI4]
  refine k_nf (cells2 := 1) (slots2 := 16) (st2 := [.ref (E.1 + q1), .ref (E.1 + a0)]) rfl rfl rfl ?_
  refine k_dup (pc := 8) C dX11_init_8 rfl ?_
  obtain ⟨r6, hr6, h⟩ := bd_e h
  refine k_IN (pc := 9) (st := [.ref (E.1 + q1), .ref (E.1 + a0)]) C (c_X7_init hr6) lkIN_RX11_11 rfl rfl (Nat.le_of_ble_eq_true rfl) (Nat.le_of_ble_eq_true rfl) (Nat.le_of_ble_eq_true rfl) (Nat.le_of_ble_eq_true rfl) (Nat.le_of_ble_eq_true rfl) dX11_init_9 ?_
  refine k_nf (cells2 := 16) (slots2 := 498) (st2 := [.ref (E.1 + q1), .ref (E.1 + a0)]) rfl rfl rfl ?_
  obtain ⟨hs70, h⟩ := gp_e h
  have hs7 := sok_e hs70
  obtain ⟨R8, eR8, h⟩ := lt_e h
  refine k_putFR (pc := 12) C hin lkQ_RX11_12_11 hs7 ir_11_0 (fun _ => ⟨rfl, rfl⟩) dX11_init_12 ?_
  rw [← eR8]
  refine k_aloadn (pc := 15) C dX11_init_15 (i := 0) rfl 0 rfl ?_
  obtain ⟨q9, eq9, h⟩ := lt_e h
  obtain ⟨S10, eS10, h⟩ := lt_e h
  obtain ⟨R11, eR11, h⟩ := lt_e h
  obtain ⟨I12, eI12, h⟩ := lt_e h
  refine k_new (pc := 16) C lkN_RX11_9 (Nat.le_of_ble_eq_true rfl) (Nat.le_of_ble_eq_true rfl) dX11_init_16 ?_
  rw [← eq9, ← eS10, ← eR11, ← eI12]
  refine k_nf (cells2 := 17) (slots2 := 514) (st2 := [.ref (E.1 + q9), .ref (E.1 + a0)]) rfl rfl rfl ?_
  refine k_dup (pc := 19) C dX11_init_19 rfl ?_
  obtain ⟨r14, hr14, h⟩ := bd_e h
  refine k_IN (pc := 20) (st := [.ref (E.1 + q9), .ref (E.1 + a0)]) C (c_X7_init hr14) lkIN_RX11_11 rfl rfl (Nat.le_of_ble_eq_true rfl) (Nat.le_of_ble_eq_true rfl) (Nat.le_of_ble_eq_true rfl) (Nat.le_of_ble_eq_true rfl) (Nat.le_of_ble_eq_true rfl) dX11_init_20 ?_
  refine k_nf (cells2 := 32) (slots2 := 996) (st2 := [.ref (E.1 + q9), .ref (E.1 + a0)]) rfl rfl rfl ?_
  obtain ⟨hs150, h⟩ := gp_e h
  have hs15 := sok_e hs150
  obtain ⟨R16, eR16, h⟩ := lt_e h
  refine k_putFR (pc := 23) C hin lkQ_RX11_16_11 hs15 ir_11_1 (fun _ => ⟨rfl, rfl⟩) dX11_init_23 ?_
  rw [← eR16]
  refine k_aloadn (pc := 26) C dX11_init_26 (i := 0) rfl 0 rfl ?_
  obtain ⟨q17, eq17, h⟩ := lt_e h
  obtain ⟨S18, eS18, h⟩ := lt_e h
  obtain ⟨R19, eR19, h⟩ := lt_e h
  obtain ⟨I20, eI20, h⟩ := lt_e h
  refine k_new (pc := 27) C lkN_RX11_19 (Nat.le_of_ble_eq_true rfl) (Nat.le_of_ble_eq_true rfl) dX11_init_27 ?_
  rw [← eq17, ← eS18, ← eR19, ← eI20]
  refine k_nf (cells2 := 33) (slots2 := 1003) (st2 := [.ref (E.1 + q17), .ref (E.1 + a0)]) rfl rfl rfl ?_
  refine k_dup (pc := 30) C dX11_init_30 rfl ?_
  obtain ⟨r22, hr22, h⟩ := bd_e h
  refine k_IN (pc := 31) (st := [.ref (E.1 + q17), .ref (E.1 + a0)]) C (c_X3_init hr22) lkIN_RX11_21 rfl rfl (Nat.le_of_ble_eq_true rfl) (Nat.le_of_ble_eq_true rfl) (Nat.le_of_ble_eq_true rfl) (Nat.le_of_ble_eq_true rfl) (Nat.le_of_ble_eq_true rfl) dX11_init_31 ?_
  refine k_nf (cells2 := 43) (slots2 := 2021) (st2 := [.ref (E.1 + q17), .ref (E.1 + a0)]) rfl rfl rfl ?_
  obtain ⟨hs230, h⟩ := gp_e h
  have hs23 := sok_e hs230
  obtain ⟨R24, eR24, h⟩ := lt_e h
  refine k_putFR (pc := 34) C hin lkQ_RX11_22_11 hs23 ir_11_3 (fun _ => ⟨rfl, rfl⟩) dX11_init_34 ?_
  rw [← eR24]
  refine k_aloadn (pc := 37) C dX11_init_37 (i := 0) rfl 0 rfl ?_
  obtain ⟨q25, eq25, h⟩ := lt_e h
  obtain ⟨S26, eS26, h⟩ := lt_e h
  obtain ⟨R27, eR27, h⟩ := lt_e h
  obtain ⟨I28, eI28, h⟩ := lt_e h
  refine k_new (pc := 38) C lkN_RX11_26 (Nat.le_of_ble_eq_true rfl) (Nat.le_of_ble_eq_true rfl) dX11_init_38 ?_
  rw [← eq25, ← eS26, ← eR27, ← eI28]
  refine k_nf (cells2 := 44) (slots2 := 2032) (st2 := [.ref (E.1 + q25), .ref (E.1 + a0)]) rfl rfl rfl ?_
  refine k_dup (pc := 41) C dX11_init_41 rfl ?_
  refine k_aloadn (pc := 42) C dX11_init_42 (i := 0) rfl 0 rfl ?_
  obtain ⟨hs300, h⟩ := gp_e h
  have hs30 := sok_e hs300
  obtain ⟨b31, hb31, h⟩ := rl_e h
  refine k_getR (pc := 43) C lkF_RX11_12_11 hs30 ir_11_0 hb31 dX11_init_43 ?_
  obtain ⟨r32, hr32, h⟩ := bd_e h
  refine k_I (pc := 46) (st := [.ref (E.1 + q25), .ref (E.1 + a0)]) C (c_X2_init hr32) lkI_RX11_28 rfl rfl (Nat.le_of_ble_eq_true rfl) (Nat.le_of_ble_eq_true rfl) (Nat.le_of_ble_eq_true rfl) (Nat.le_of_ble_eq_true rfl) (Nat.le_of_ble_eq_true rfl) dX11_init_46 ?_
  refine k_nf (cells2 := 51) (slots2 := 27650) (st2 := [.ref (E.1 + q25), .ref (E.1 + a0)]) rfl rfl rfl ?_
  obtain ⟨hs330, h⟩ := gp_e h
  have hs33 := sok_e hs330
  obtain ⟨R34, eR34, h⟩ := lt_e h
  refine k_putFR (pc := 49) C hin lkQ_RX11_31_11 hs33 ir_11_4 (fun _ => ⟨rfl, rfl⟩) dX11_init_49 ?_
  rw [← eR34]
  refine k_aloadn (pc := 52) C dX11_init_52 (i := 0) rfl 0 rfl ?_
  refine k_bipush (pc := 53) C (v := (27 : Int32)) dX11_init_53 (by decide) ?_
  obtain ⟨q35, eq35, h⟩ := lt_e h
  obtain ⟨S36, eS36, h⟩ := lt_e h
  obtain ⟨R37, eR37, h⟩ := lt_e h
  obtain ⟨I38, eI38, h⟩ := lt_e h
  refine k_newa (pc := 55) C (t := 20) (N := 27) rfl (by decide) (t1_in 68 (by decide +kernel) rfl) (by decide) (by decide) (by decide) (Nat.le_of_ble_eq_true rfl) (Nat.le_of_ble_eq_true rfl) dX11_init_55 ?_
  rw [← eq35, ← eS36, ← eR37, ← eI38]
  refine k_nf (cells2 := 52) (slots2 := 27677) (st2 := [.ref (E.1 + q35), .ref (E.1 + a0)]) rfl rfl rfl ?_
  obtain ⟨hs400, h⟩ := gp_e h
  have hs40 := sok_e hs400
  obtain ⟨R41, eR41, h⟩ := lt_e h
  refine k_putFR (pc := 57) C hin lkQ_RX11_35_11 hs40 ir_11_5 (fun _ => ⟨rfl, rfl⟩) dX11_init_57 ?_
  rw [← eR41]
  refine k_aloadn (pc := 60) C dX11_init_60 (i := 0) rfl 0 rfl ?_
  refine k_iconst (pc := 61) C (v := (4 : Int32)) dX11_init_61 (by decide) ?_
  obtain ⟨q42, eq42, h⟩ := lt_e h
  obtain ⟨S43, eS43, h⟩ := lt_e h
  obtain ⟨R44, eR44, h⟩ := lt_e h
  obtain ⟨I45, eI45, h⟩ := lt_e h
  refine k_newq (pc := 62) C (t := 23) (N := 4) rfl (by decide) (t1_in 213 (by decide +kernel) rfl) (by decide) (by decide) (by decide) (Nat.le_of_ble_eq_true rfl) (Nat.le_of_ble_eq_true rfl) dX11_init_62 ?_
  rw [← eq42, ← eS43, ← eR44, ← eI45]
  refine k_nf (cells2 := 53) (slots2 := 27681) (st2 := [.ref (E.1 + q42), .ref (E.1 + a0)]) rfl rfl rfl ?_
  obtain ⟨hs470, h⟩ := gp_e h
  have hs47 := sok_e hs470
  obtain ⟨R48, eR48, h⟩ := lt_e h
  refine k_putFR (pc := 65) C hin lkQ_RX11_41_11 hs47 ir_11_7 (fun _ => ⟨rfl, rfl⟩) dX11_init_65 ?_
  rw [← eR48]
  refine k_aloadn (pc := 68) C dX11_init_68 (i := 0) rfl 0 rfl ?_
  refine k_iconst (pc := 69) C (v := (4 : Int32)) dX11_init_69 (by decide) ?_
  obtain ⟨q49, eq49, h⟩ := lt_e h
  obtain ⟨S50, eS50, h⟩ := lt_e h
  obtain ⟨R51, eR51, h⟩ := lt_e h
  obtain ⟨I52, eI52, h⟩ := lt_e h
  refine k_newa (pc := 70) C (t := 20) (N := 4) rfl (by decide) (t1_in 68 (by decide +kernel) rfl) (by decide) (by decide) (by decide) (Nat.le_of_ble_eq_true rfl) (Nat.le_of_ble_eq_true rfl) dX11_init_70 ?_
  rw [← eq49, ← eS50, ← eR51, ← eI52]
  refine k_nf (cells2 := 54) (slots2 := 27685) (st2 := [.ref (E.1 + q49), .ref (E.1 + a0)]) rfl rfl rfl ?_
  obtain ⟨hs540, h⟩ := gp_e h
  have hs54 := sok_e hs540
  obtain ⟨R55, eR55, h⟩ := lt_e h
  refine k_putFR (pc := 72) C hin lkQ_RX11_45_11 hs54 ir_11_8 (fun _ => ⟨rfl, rfl⟩) dX11_init_72 ?_
  rw [← eR55]
  refine k_aloadn (pc := 75) C dX11_init_75 (i := 0) rfl 0 rfl ?_
  refine k_iconst (pc := 76) C (v := (4 : Int32)) dX11_init_76 (by decide) ?_
  obtain ⟨q56, eq56, h⟩ := lt_e h
  obtain ⟨S57, eS57, h⟩ := lt_e h
  obtain ⟨R58, eR58, h⟩ := lt_e h
  obtain ⟨I59, eI59, h⟩ := lt_e h
  refine k_newa (pc := 77) C (t := 20) (N := 4) rfl (by decide) (t1_in 68 (by decide +kernel) rfl) (by decide) (by decide) (by decide) (Nat.le_of_ble_eq_true rfl) (Nat.le_of_ble_eq_true rfl) dX11_init_77 ?_
  rw [← eq56, ← eS57, ← eR58, ← eI59]
  refine k_nf (cells2 := 55) (slots2 := 27689) (st2 := [.ref (E.1 + q56), .ref (E.1 + a0)]) rfl rfl rfl ?_
  obtain ⟨hs610, h⟩ := gp_e h
  have hs61 := sok_e hs610
  obtain ⟨R62, eR62, h⟩ := lt_e h
  refine k_putFR (pc := 79) C hin lkQ_RX11_48_11 hs61 ir_11_9 (fun _ => ⟨rfl, rfl⟩) dX11_init_79 ?_
  rw [← eR62]
  refine k_aloadn (pc := 82) C dX11_init_82 (i := 0) rfl 0 rfl ?_
  refine k_iconst (pc := 83) C (v := (4 : Int32)) dX11_init_83 (by decide) ?_
  obtain ⟨q63, eq63, h⟩ := lt_e h
  obtain ⟨S64, eS64, h⟩ := lt_e h
  obtain ⟨R65, eR65, h⟩ := lt_e h
  obtain ⟨I66, eI66, h⟩ := lt_e h
  refine k_newa (pc := 84) C (t := 20) (N := 4) rfl (by decide) (t1_in 68 (by decide +kernel) rfl) (by decide) (by decide) (by decide) (Nat.le_of_ble_eq_true rfl) (Nat.le_of_ble_eq_true rfl) dX11_init_84 ?_
  rw [← eq63, ← eS64, ← eR65, ← eI66]
  refine k_nf (cells2 := 56) (slots2 := 27693) (st2 := [.ref (E.1 + q63), .ref (E.1 + a0)]) rfl rfl rfl ?_
  obtain ⟨hs680, h⟩ := gp_e h
  have hs68 := sok_e hs680
  obtain ⟨R69, eR69, h⟩ := lt_e h
  refine k_putFR (pc := 86) C hin lkQ_RX11_51_11 hs68 ir_11_10 (fun _ => ⟨rfl, rfl⟩) dX11_init_86 ?_
  rw [← eR69]
  refine k_iconst (pc := 89) C (v := (0 : Int32)) dX11_init_89 (by decide) ?_
  refine k_istoren (pc := 90) C dX11_init_90 (i := 1) rfl (by decide) (L2 := [(0, .ref (E.1 + a0)), (1, .int (0 : Int32))]) rfl ?_
  refine k_iloadn (pc := 91) C dX11_init_91 (i := 1) rfl 1 rfl ?_
  refine k_iconst (pc := 92) C (v := (4 : Int32)) dX11_init_92 (by decide) ?_
  refine k_icmp_ge (pc := 93) C dX11_init_93 (tgt := 115) (by decide) (fun hc70 => absurd hc70 (by decide)) (fun _ => ?_)
  refine k_aloadn (pc := 96) C dX11_init_96 (i := 0) rfl 0 rfl ?_
  obtain ⟨b71, hb71, h⟩ := rl_e h
  refine k_getR (pc := 97) C lkF_RX11_41_11 hs68 ir_11_7 hb71 dX11_init_97 ?_
  refine k_iloadn (pc := 100) C dX11_init_100 (i := 1) rfl 1 rfl ?_
  obtain ⟨q72, eq72, h⟩ := lt_e h
  obtain ⟨S73, eS73, h⟩ := lt_e h
  obtain ⟨R74, eR74, h⟩ := lt_e h
  obtain ⟨I75, eI75, h⟩ := lt_e h
  refine k_new (pc := 101) C lkN_RX11_39 (Nat.le_of_ble_eq_true rfl) (Nat.le_of_ble_eq_true rfl) dX11_init_101 ?_
  rw [← eq72, ← eS73, ← eR74, ← eI75]
  refine k_nf (cells2 := 57) (slots2 := 27696) (st2 := [.ref (E.1 + q72), .int (0 : Int32), .ref (E.1 + b71)]) rfl rfl rfl ?_
  refine k_dup (pc := 104) C dX11_init_104 rfl ?_
  obtain ⟨r77, hr77, h⟩ := bd_e h
  refine k_IN (pc := 105) (st := [.ref (E.1 + q72), .int (0 : Int32), .ref (E.1 + b71)]) C (c_X8_init hr77) lkIN_RX11_54 rfl rfl (Nat.le_of_ble_eq_true rfl) (Nat.le_of_ble_eq_true rfl) (Nat.le_of_ble_eq_true rfl) (Nat.le_of_ble_eq_true rfl) (Nat.le_of_ble_eq_true rfl) dX11_init_105 ?_
  refine k_nf (cells2 := 58) (slots2 := 27736) (st2 := [.ref (E.1 + q72), .int (0 : Int32), .ref (E.1 + b71)]) rfl rfl rfl ?_
  obtain ⟨ha78, h⟩ := gp_e h
  obtain ⟨hs800, h⟩ := gp_e h
  have hs80 := sok_e hs800
  obtain ⟨R79, eR79, h⟩ := lt_e h
  refine k_aast (pc := 108) C ha78 hs80 dX11_init_108 ?_
  rw [← eR79]
  refine k_iinc (pc := 109) C dX11_init_109 1 rfl (v := (1 : Int32)) (by decide) (by decide) (L2 := [(0, .ref (E.1 + a0)), (1, .int (1 : Int32))]) rfl ?_
  refine k_goto (pc := 112) C dX11_init_112 (tgt := 91) (by decide) ?_
  refine k_iloadn (pc := 91) C dX11_init_91 (i := 1) rfl 1 rfl ?_
  refine k_iconst (pc := 92) C (v := (4 : Int32)) dX11_init_92 (by decide) ?_
  refine k_icmp_ge (pc := 93) C dX11_init_93 (tgt := 115) (by decide) (fun hc81 => absurd hc81 (by decide)) (fun _ => ?_)
  refine k_aloadn (pc := 96) C dX11_init_96 (i := 0) rfl 0 rfl ?_
  obtain ⟨hs820, h⟩ := gp_e h
  have hs82 := sok_e hs820
  obtain ⟨b83, hb83, h⟩ := rl_e h
  refine k_getR (pc := 97) C lkF_RX11_41_11 hs82 ir_11_7 hb83 dX11_init_97 ?_
  refine k_iloadn (pc := 100) C dX11_init_100 (i := 1) rfl 1 rfl ?_
  obtain ⟨q84, eq84, h⟩ := lt_e h
  obtain ⟨S85, eS85, h⟩ := lt_e h
  obtain ⟨R86, eR86, h⟩ := lt_e h
  obtain ⟨I87, eI87, h⟩ := lt_e h
  refine k_new (pc := 101) C lkN_RX11_39 (Nat.le_of_ble_eq_true rfl) (Nat.le_of_ble_eq_true rfl) dX11_init_101 ?_
  rw [← eq84, ← eS85, ← eR86, ← eI87]
  refine k_nf (cells2 := 59) (slots2 := 27739) (st2 := [.ref (E.1 + q84), .int (1 : Int32), .ref (E.1 + b83)]) rfl rfl rfl ?_
  refine k_dup (pc := 104) C dX11_init_104 rfl ?_
  obtain ⟨r89, hr89, h⟩ := bd_e h
  refine k_IN (pc := 105) (st := [.ref (E.1 + q84), .int (1 : Int32), .ref (E.1 + b83)]) C (c_X8_init hr89) lkIN_RX11_54 rfl rfl (Nat.le_of_ble_eq_true rfl) (Nat.le_of_ble_eq_true rfl) (Nat.le_of_ble_eq_true rfl) (Nat.le_of_ble_eq_true rfl) (Nat.le_of_ble_eq_true rfl) dX11_init_105 ?_
  refine k_nf (cells2 := 60) (slots2 := 27779) (st2 := [.ref (E.1 + q84), .int (1 : Int32), .ref (E.1 + b83)]) rfl rfl rfl ?_
  obtain ⟨ha90, h⟩ := gp_e h
  obtain ⟨hs920, h⟩ := gp_e h
  have hs92 := sok_e hs920
  obtain ⟨R91, eR91, h⟩ := lt_e h
  refine k_aast (pc := 108) C ha90 hs92 dX11_init_108 ?_
  rw [← eR91]
  refine k_iinc (pc := 109) C dX11_init_109 1 rfl (v := (2 : Int32)) (by decide) (by decide) (L2 := [(0, .ref (E.1 + a0)), (1, .int (2 : Int32))]) rfl ?_
  refine k_goto (pc := 112) C dX11_init_112 (tgt := 91) (by decide) ?_
  refine k_iloadn (pc := 91) C dX11_init_91 (i := 1) rfl 1 rfl ?_
  refine k_iconst (pc := 92) C (v := (4 : Int32)) dX11_init_92 (by decide) ?_
  refine k_icmp_ge (pc := 93) C dX11_init_93 (tgt := 115) (by decide) (fun hc93 => absurd hc93 (by decide)) (fun _ => ?_)
  refine k_aloadn (pc := 96) C dX11_init_96 (i := 0) rfl 0 rfl ?_
  obtain ⟨hs940, h⟩ := gp_e h
  have hs94 := sok_e hs940
  obtain ⟨b95, hb95, h⟩ := rl_e h
  refine k_getR (pc := 97) C lkF_RX11_41_11 hs94 ir_11_7 hb95 dX11_init_97 ?_
  refine k_iloadn (pc := 100) C dX11_init_100 (i := 1) rfl 1 rfl ?_
  obtain ⟨q96, eq96, h⟩ := lt_e h
  obtain ⟨S97, eS97, h⟩ := lt_e h
  obtain ⟨R98, eR98, h⟩ := lt_e h
  obtain ⟨I99, eI99, h⟩ := lt_e h
  refine k_new (pc := 101) C lkN_RX11_39 (Nat.le_of_ble_eq_true rfl) (Nat.le_of_ble_eq_true rfl) dX11_init_101 ?_
  rw [← eq96, ← eS97, ← eR98, ← eI99]
  refine k_nf (cells2 := 61) (slots2 := 27782) (st2 := [.ref (E.1 + q96), .int (2 : Int32), .ref (E.1 + b95)]) rfl rfl rfl ?_
  refine k_dup (pc := 104) C dX11_init_104 rfl ?_
  obtain ⟨r101, hr101, h⟩ := bd_e h
  refine k_IN (pc := 105) (st := [.ref (E.1 + q96), .int (2 : Int32), .ref (E.1 + b95)]) C (c_X8_init hr101) lkIN_RX11_54 rfl rfl (Nat.le_of_ble_eq_true rfl) (Nat.le_of_ble_eq_true rfl) (Nat.le_of_ble_eq_true rfl) (Nat.le_of_ble_eq_true rfl) (Nat.le_of_ble_eq_true rfl) dX11_init_105 ?_
  refine k_nf (cells2 := 62) (slots2 := 27822) (st2 := [.ref (E.1 + q96), .int (2 : Int32), .ref (E.1 + b95)]) rfl rfl rfl ?_
  obtain ⟨ha102, h⟩ := gp_e h
  obtain ⟨hs1040, h⟩ := gp_e h
  have hs104 := sok_e hs1040
  obtain ⟨R103, eR103, h⟩ := lt_e h
  refine k_aast (pc := 108) C ha102 hs104 dX11_init_108 ?_
  rw [← eR103]
  refine k_iinc (pc := 109) C dX11_init_109 1 rfl (v := (3 : Int32)) (by decide) (by decide) (L2 := [(0, .ref (E.1 + a0)), (1, .int (3 : Int32))]) rfl ?_
  refine k_goto (pc := 112) C dX11_init_112 (tgt := 91) (by decide) ?_
  refine k_iloadn (pc := 91) C dX11_init_91 (i := 1) rfl 1 rfl ?_
  refine k_iconst (pc := 92) C (v := (4 : Int32)) dX11_init_92 (by decide) ?_
  refine k_icmp_ge (pc := 93) C dX11_init_93 (tgt := 115) (by decide) (fun hc105 => absurd hc105 (by decide)) (fun _ => ?_)
  refine k_aloadn (pc := 96) C dX11_init_96 (i := 0) rfl 0 rfl ?_
  obtain ⟨hs1060, h⟩ := gp_e h
  have hs106 := sok_e hs1060
  obtain ⟨b107, hb107, h⟩ := rl_e h
  refine k_getR (pc := 97) C lkF_RX11_41_11 hs106 ir_11_7 hb107 dX11_init_97 ?_
  refine k_iloadn (pc := 100) C dX11_init_100 (i := 1) rfl 1 rfl ?_
  obtain ⟨q108, eq108, h⟩ := lt_e h
  obtain ⟨S109, eS109, h⟩ := lt_e h
  obtain ⟨R110, eR110, h⟩ := lt_e h
  obtain ⟨I111, eI111, h⟩ := lt_e h
  refine k_new (pc := 101) C lkN_RX11_39 (Nat.le_of_ble_eq_true rfl) (Nat.le_of_ble_eq_true rfl) dX11_init_101 ?_
  rw [← eq108, ← eS109, ← eR110, ← eI111]
  refine k_nf (cells2 := 63) (slots2 := 27825) (st2 := [.ref (E.1 + q108), .int (3 : Int32), .ref (E.1 + b107)]) rfl rfl rfl ?_
  refine k_dup (pc := 104) C dX11_init_104 rfl ?_
  obtain ⟨r113, hr113, h⟩ := bd_e h
  refine k_IN (pc := 105) (st := [.ref (E.1 + q108), .int (3 : Int32), .ref (E.1 + b107)]) C (c_X8_init hr113) lkIN_RX11_54 rfl rfl (Nat.le_of_ble_eq_true rfl) (Nat.le_of_ble_eq_true rfl) (Nat.le_of_ble_eq_true rfl) (Nat.le_of_ble_eq_true rfl) (Nat.le_of_ble_eq_true rfl) dX11_init_105 ?_
  refine k_nf (cells2 := 64) (slots2 := 27865) (st2 := [.ref (E.1 + q108), .int (3 : Int32), .ref (E.1 + b107)]) rfl rfl rfl ?_
  obtain ⟨ha114, h⟩ := gp_e h
  obtain ⟨hs1160, h⟩ := gp_e h
  have hs116 := sok_e hs1160
  obtain ⟨R115, eR115, h⟩ := lt_e h
  refine k_aast (pc := 108) C ha114 hs116 dX11_init_108 ?_
  rw [← eR115]
  refine k_iinc (pc := 109) C dX11_init_109 1 rfl (v := (4 : Int32)) (by decide) (by decide) (L2 := [(0, .ref (E.1 + a0)), (1, .int (4 : Int32))]) rfl ?_
  refine k_goto (pc := 112) C dX11_init_112 (tgt := 91) (by decide) ?_
  refine k_iloadn (pc := 91) C dX11_init_91 (i := 1) rfl 1 rfl ?_
  refine k_iconst (pc := 92) C (v := (4 : Int32)) dX11_init_92 (by decide) ?_
  refine k_icmp_ge (pc := 93) C dX11_init_93 (tgt := 115) (by decide) (fun _ => ?_) (fun hc117 => absurd hc117 (by decide))
  refine k_iconst (pc := 115) C (v := (0 : Int32)) dX11_init_115 (by decide) ?_
  refine k_istoren (pc := 116) C dX11_init_116 (i := 1) rfl (by decide) (L2 := [(0, .ref (E.1 + a0)), (1, .int (0 : Int32))]) rfl ?_
  refine k_iloadn (pc := 117) C dX11_init_117 (i := 1) rfl 1 rfl ?_
  refine k_iconst (pc := 118) C (v := (4 : Int32)) dX11_init_118 (by decide) ?_
  refine k_icmp_ge (pc := 119) C dX11_init_119 (tgt := 135) (by decide) (fun hc118 => absurd hc118 (by decide)) (fun _ => ?_)
  refine k_aloadn (pc := 122) C dX11_init_122 (i := 0) rfl 0 rfl ?_
  obtain ⟨hs1190, h⟩ := gp_e h
  have hs119 := sok_e hs1190
  obtain ⟨b120, hb120, h⟩ := rl_e h
  refine k_getR (pc := 123) C lkF_RX11_45_11 hs119 ir_11_8 hb120 dX11_init_123 ?_
  refine k_iloadn (pc := 126) C dX11_init_126 (i := 1) rfl 1 rfl ?_
  refine k_iconst (pc := 127) C (v := (2 : Int32)) dX11_init_127 (by decide) ?_
  obtain ⟨ha121, h⟩ := gp_e h
  obtain ⟨I122, eI122, h⟩ := lt_e h
  refine k_iast (pc := 128) C ha121 dX11_init_128 ?_
  rw [← eI122]
  refine k_iinc (pc := 129) C dX11_init_129 1 rfl (v := (1 : Int32)) (by decide) (by decide) (L2 := [(0, .ref (E.1 + a0)), (1, .int (1 : Int32))]) rfl ?_
  refine k_goto (pc := 132) C dX11_init_132 (tgt := 117) (by decide) ?_
  refine k_iloadn (pc := 117) C dX11_init_117 (i := 1) rfl 1 rfl ?_
  refine k_iconst (pc := 118) C (v := (4 : Int32)) dX11_init_118 (by decide) ?_
  refine k_icmp_ge (pc := 119) C dX11_init_119 (tgt := 135) (by decide) (fun hc123 => absurd hc123 (by decide)) (fun _ => ?_)
  refine k_aloadn (pc := 122) C dX11_init_122 (i := 0) rfl 0 rfl ?_
  obtain ⟨b124, hb124, h⟩ := rl_e h
  refine k_getR (pc := 123) C lkF_RX11_45_11 hs119 ir_11_8 hb124 dX11_init_123 ?_
  refine k_iloadn (pc := 126) C dX11_init_126 (i := 1) rfl 1 rfl ?_
  refine k_iconst (pc := 127) C (v := (2 : Int32)) dX11_init_127 (by decide) ?_
  obtain ⟨ha125, h⟩ := gp_e h
  obtain ⟨I126, eI126, h⟩ := lt_e h
  refine k_iast (pc := 128) C ha125 dX11_init_128 ?_
  rw [← eI126]
  refine k_iinc (pc := 129) C dX11_init_129 1 rfl (v := (2 : Int32)) (by decide) (by decide) (L2 := [(0, .ref (E.1 + a0)), (1, .int (2 : Int32))]) rfl ?_
  refine k_goto (pc := 132) C dX11_init_132 (tgt := 117) (by decide) ?_
  refine k_iloadn (pc := 117) C dX11_init_117 (i := 1) rfl 1 rfl ?_
  refine k_iconst (pc := 118) C (v := (4 : Int32)) dX11_init_118 (by decide) ?_
  refine k_icmp_ge (pc := 119) C dX11_init_119 (tgt := 135) (by decide) (fun hc127 => absurd hc127 (by decide)) (fun _ => ?_)
  refine k_aloadn (pc := 122) C dX11_init_122 (i := 0) rfl 0 rfl ?_
  obtain ⟨b128, hb128, h⟩ := rl_e h
  refine k_getR (pc := 123) C lkF_RX11_45_11 hs119 ir_11_8 hb128 dX11_init_123 ?_
  refine k_iloadn (pc := 126) C dX11_init_126 (i := 1) rfl 1 rfl ?_
  refine k_iconst (pc := 127) C (v := (2 : Int32)) dX11_init_127 (by decide) ?_
  obtain ⟨ha129, h⟩ := gp_e h
  obtain ⟨I130, eI130, h⟩ := lt_e h
  refine k_iast (pc := 128) C ha129 dX11_init_128 ?_
  rw [← eI130]
  refine k_iinc (pc := 129) C dX11_init_129 1 rfl (v := (3 : Int32)) (by decide) (by decide) (L2 := [(0, .ref (E.1 + a0)), (1, .int (3 : Int32))]) rfl ?_
  refine k_goto (pc := 132) C dX11_init_132 (tgt := 117) (by decide) ?_
  refine k_iloadn (pc := 117) C dX11_init_117 (i := 1) rfl 1 rfl ?_
  refine k_iconst (pc := 118) C (v := (4 : Int32)) dX11_init_118 (by decide) ?_
  refine k_icmp_ge (pc := 119) C dX11_init_119 (tgt := 135) (by decide) (fun hc131 => absurd hc131 (by decide)) (fun _ => ?_)
  refine k_aloadn (pc := 122) C dX11_init_122 (i := 0) rfl 0 rfl ?_
  obtain ⟨b132, hb132, h⟩ := rl_e h
  refine k_getR (pc := 123) C lkF_RX11_45_11 hs119 ir_11_8 hb132 dX11_init_123 ?_
  refine k_iloadn (pc := 126) C dX11_init_126 (i := 1) rfl 1 rfl ?_
  refine k_iconst (pc := 127) C (v := (2 : Int32)) dX11_init_127 (by decide) ?_
  obtain ⟨ha133, h⟩ := gp_e h
  obtain ⟨I134, eI134, h⟩ := lt_e h
  refine k_iast (pc := 128) C ha133 dX11_init_128 ?_
  rw [← eI134]
  refine k_iinc (pc := 129) C dX11_init_129 1 rfl (v := (4 : Int32)) (by decide) (by decide) (L2 := [(0, .ref (E.1 + a0)), (1, .int (4 : Int32))]) rfl ?_
  refine k_goto (pc := 132) C dX11_init_132 (tgt := 117) (by decide) ?_
  refine k_iloadn (pc := 117) C dX11_init_117 (i := 1) rfl 1 rfl ?_
  refine k_iconst (pc := 118) C (v := (4 : Int32)) dX11_init_118 (by decide) ?_
  refine k_icmp_ge (pc := 119) C dX11_init_119 (tgt := 135) (by decide) (fun _ => ?_) (fun hc135 => absurd hc135 (by decide))
  have h := Option.some.inj h
  subst h
  exact k_vret (pc := 135) C hr hk dX11_init_135
theorem c_X11_init {E : Ev} {l : Launch} {S : Sh} {R : Rw} {I : Iw} {a0 : Nat} {r : (Sh × Rw × Iw)} (h : f_X11_init S R I a0 = some r) : Mt E l yX11_init cX11_init 2 none 3 60 [.ref (E.1 + a0)] S R I r.1 r.2.1 r.2.2 none 64 27865 := mt_of (by decide) (Nat.le_of_ble_eq_true rfl) (fun p e s m args below meth c C hr hk hn => b_X11_init C hr hk hn _ _ _ _ h)
theorem lkV_RX11_59 : LkV RX11 59 RX7 yX7_add cX7_add 6 (some .int) 4 := ⟨(t2_in 37 (by decide +kernel) rfl), (t2_in 38 (by decide +kernel) rfl), (t2_in 39 (by decide +kernel) rfl), (t2_in 40 (by decide +kernel) rfl), (t1_in 2 (by decide +kernel) rfl), by decide, by decide +kernel⟩
theorem dX11_good_0 : decode cX11_good 0 = .ok (.iload_n 1, 1) := by decide +kernel
theorem dX11_good_1 : decode cX11_good 1 = .ok (.iconst 1, 1) := by decide +kernel
theorem dX11_good_2 : decode cX11_good 2 = .ok (.iconst 5, 1) := by decide +kernel
theorem dX11_good_3 : decode cX11_good 3 = .ok (.invokestatic 55, 3) := by decide +kernel
theorem dX11_good_6 : decode cX11_good 6 = .ok (.ifCond .eq 34, 3) := by decide +kernel
theorem dX11_good_9 : decode cX11_good 9 = .ok (.iload_n 2, 1) := by decide +kernel
theorem dX11_good_10 : decode cX11_good 10 = .ok (.iconst 0, 1) := by decide +kernel
theorem dX11_good_11 : decode cX11_good 11 = .ok (.iconst 2, 1) := by decide +kernel
theorem dX11_good_12 : decode cX11_good 12 = .ok (.invokestatic 55, 3) := by decide +kernel
theorem dX11_good_15 : decode cX11_good 15 = .ok (.ifCond .eq 25, 3) := by decide +kernel
theorem dX11_good_18 : decode cX11_good 18 = .ok (.iload_n 3, 1) := by decide +kernel
theorem dX11_good_19 : decode cX11_good 19 = .ok (.iconst 0, 1) := by decide +kernel
theorem dX11_good_20 : decode cX11_good 20 = .ok (.bipush 9, 2) := by decide +kernel
theorem dX11_good_22 : decode cX11_good 22 = .ok (.invokestatic 55, 3) := by decide +kernel
theorem dX11_good_25 : decode cX11_good 25 = .ok (.ifCond .eq 15, 3) := by decide +kernel
theorem dX11_good_28 : decode cX11_good 28 = .ok (.iload 4, 2) := by decide +kernel
theorem dX11_good_30 : decode cX11_good 30 = .ok (.iconst 1, 1) := by decide +kernel
theorem dX11_good_31 : decode cX11_good 31 = .ok (.sipush 999, 3) := by decide +kernel
theorem dX11_good_34 : decode cX11_good 34 = .ok (.invokestatic 55, 3) := by decide +kernel
theorem dX11_good_37 : decode cX11_good 37 = .ok (.ifCond .ne 5, 3) := by decide +kernel
theorem dX11_good_40 : decode cX11_good 40 = .ok (.iconst (-1), 1) := by decide +kernel
theorem dX11_good_41 : decode cX11_good 41 = .ok (.ireturn, 1) := by decide +kernel
theorem dX11_good_42 : decode cX11_good 42 = .ok (.aload_n 0, 1) := by decide +kernel
theorem dX11_good_43 : decode cX11_good 43 = .ok (.getfield 12, 3) := by decide +kernel
theorem dX11_good_46 : decode cX11_good 46 = .ok (.iload_n 1, 1) := by decide +kernel
theorem dX11_good_47 : decode cX11_good 47 = .ok (.iload_n 2, 1) := by decide +kernel
theorem dX11_good_48 : decode cX11_good 48 = .ok (.iload_n 3, 1) := by decide +kernel
theorem dX11_good_49 : decode cX11_good 49 = .ok (.iload 4, 2) := by decide +kernel
theorem dX11_good_51 : decode cX11_good 51 = .ok (.invokevirtual 59, 3) := by decide +kernel
theorem dX11_good_54 : decode cX11_good 54 = .ok (.ireturn, 1) := by decide +kernel
def f_X11_good (S : Sh) (R : Rw)  (I : Iw) (a0 : Nat) (x1 : Int32) (x2 : Int32) (x3 : Int32) (x4 : Int32) : Option (Iw × Int32) := bd (f_X11_isBetween S R I x1 (1 : Int32) (5 : Int32)) (fun r1 => (if r1 = 0 then some (I, (-1 : Int32)) else bd (f_X11_isBetween S R I x2 (0 : Int32) (2 : Int32)) (fun r3 => (if r3 = 0 then some (I, (-1 : Int32)) else bd (f_X11_isBetween S R I x3 (0 : Int32) (9 : Int32)) (fun r5 => (if r5 = 0 then some (I, (-1 : Int32)) else bd (f_X11_isBetween S R I x4 (1 : Int32) (999 : Int32)) (fun r7 => (if r7 = 0 then some (I, (-1 : Int32)) else gp (sok S a0 11 12) (rl (R a0 0) (fun b10 => gp (sok S b10 7 16) (bd (f_X7_add S R I b10 x1 x2 x3 x4) (fun r12 => some (r12.1, r12.2)))))))))))))
set_option maxHeartbeats 4000000 in
theorem b_X11_good {E : Ev} {p : Program} {l : Launch} {e : Env} {s : State} {m : MethodId} {args : Array Value} {below : List Frame} {meth : Method} {c : Code} (C : Cx E RX11 cX11_good 5 p s m c) (hr : meth.sig.returnType = (some .int)) (hk : meth.locks = false) {S : Sh} {R : Rw} {r : Iw × Int32}  : ∀ (I : Iw) (a0 : Nat) (x1 : Int32) (x2 : Int32) (x3 : Int32) (x4 : Int32), f_X11_good S R   I a0 x1 x2 x3 x4 = some r → Wk E 5 p l e ({ frames := 6, cells := 0, slots := 0, locals := 136 } : Room) s m args below meth c 0 0 (MQ below (Qw E S R r.1 (some (.int r.2))) args s 0 0 (fun q => E.1 ≤ q)) 0 [(0, .ref (E.1 + a0)), (1, .int x1), (2, .int x2), (3, .int x3), (4, .int x4)] [] S R I := by
  intro I a0 x1 x2 x3 x4 h
  rw [f_X11_good] at h
  refine k_iloadn (pc := 0) C dX11_good_0 (i := 1) rfl 1 rfl ?_
  refine k_iconst (pc := 1) C (v := (1 : Int32)) dX11_good_1 (by decide) ?_
  refine k_iconst (pc := 2) C (v := (5 : Int32)) dX11_good_2 (by decide) ?_
  obtain ⟨r1, hr1, h⟩ := bd_e h
  refine k_S (pc := 3) (st := []) C (c_X11_isBetween hr1) lkS_RX11_55 rfl rfl (Nat.le_of_ble_eq_true rfl) (Nat.le_of_ble_eq_true rfl) (Nat.le_of_ble_eq_true rfl) (Nat.le_of_ble_eq_true rfl) (Nat.le_of_ble_eq_true rfl) dX11_good_3 ?_
  refine k_nf (cells2 := 0) (slots2 := 0) (st2 := [.int r1]) rfl rfl rfl ?_
  refine k_if_eq (pc := 6) C dX11_good_6 (tgt := 40) (by decide) (fun hc2 => ?_) (fun hc2 => ?_)
  · rw [if_pos hc2] at h
    refine k_iconst (pc := 40) C (v := (-1 : Int32)) dX11_good_40 (by decide) ?_
    have h := Option.some.inj h
    subst h
    exact k_iret (pc := 41) C hr hk dX11_good_41
  · rw [if_neg hc2] at h
    refine k_iloadn (pc := 9) C dX11_good_9 (i := 2) rfl 2 rfl ?_
    refine k_iconst (pc := 10) C (v := (0 : Int32)) dX11_good_10 (by decide) ?_
    refine k_iconst (pc := 11) C (v := (2 : Int32)) dX11_good_11 (by decide) ?_
    obtain ⟨r3, hr3, h⟩ := bd_e h
    refine k_S (pc := 12) (st := []) C (c_X11_isBetween hr3) lkS_RX11_55 rfl rfl (Nat.le_of_ble_eq_true rfl) (Nat.le_of_ble_eq_true rfl) (Nat.le_of_ble_eq_true rfl) (Nat.le_of_ble_eq_true rfl) (Nat.le_of_ble_eq_true rfl) dX11_good_12 ?_
    refine k_nf (cells2 := 0) (slots2 := 0) (st2 := [.int r3]) rfl rfl rfl ?_
    refine k_if_eq (pc := 15) C dX11_good_15 (tgt := 40) (by decide) (fun hc4 => ?_) (fun hc4 => ?_)
    · rw [if_pos hc4] at h
      refine k_iconst (pc := 40) C (v := (-1 : Int32)) dX11_good_40 (by decide) ?_
      have h := Option.some.inj h
      subst h
      exact k_iret (pc := 41) C hr hk dX11_good_41
    · rw [if_neg hc4] at h
      refine k_iloadn (pc := 18) C dX11_good_18 (i := 3) rfl 3 rfl ?_
      refine k_iconst (pc := 19) C (v := (0 : Int32)) dX11_good_19 (by decide) ?_
      refine k_bipush (pc := 20) C (v := (9 : Int32)) dX11_good_20 (by decide) ?_
      obtain ⟨r5, hr5, h⟩ := bd_e h
      refine k_S (pc := 22) (st := []) C (c_X11_isBetween hr5) lkS_RX11_55 rfl rfl (Nat.le_of_ble_eq_true rfl) (Nat.le_of_ble_eq_true rfl) (Nat.le_of_ble_eq_true rfl) (Nat.le_of_ble_eq_true rfl) (Nat.le_of_ble_eq_true rfl) dX11_good_22 ?_
      refine k_nf (cells2 := 0) (slots2 := 0) (st2 := [.int r5]) rfl rfl rfl ?_
      refine k_if_eq (pc := 25) C dX11_good_25 (tgt := 40) (by decide) (fun hc6 => ?_) (fun hc6 => ?_)
      · rw [if_pos hc6] at h
        refine k_iconst (pc := 40) C (v := (-1 : Int32)) dX11_good_40 (by decide) ?_
        have h := Option.some.inj h
        subst h
        exact k_iret (pc := 41) C hr hk dX11_good_41
      · rw [if_neg hc6] at h
        refine k_iload (pc := 28) C dX11_good_28 4 rfl ?_
        refine k_iconst (pc := 30) C (v := (1 : Int32)) dX11_good_30 (by decide) ?_
        refine k_sipush (pc := 31) C (v := (999 : Int32)) dX11_good_31 (by decide) ?_
        obtain ⟨r7, hr7, h⟩ := bd_e h
        refine k_S (pc := 34) (st := []) C (c_X11_isBetween hr7) lkS_RX11_55 rfl rfl (Nat.le_of_ble_eq_true rfl) (Nat.le_of_ble_eq_true rfl) (Nat.le_of_ble_eq_true rfl) (Nat.le_of_ble_eq_true rfl) (Nat.le_of_ble_eq_true rfl) dX11_good_34 ?_
        refine k_nf (cells2 := 0) (slots2 := 0) (st2 := [.int r7]) rfl rfl rfl ?_
        refine k_if_ne (pc := 37) C dX11_good_37 (tgt := 42) (by decide) (fun hc8 => ?_) (fun hc8 => ?_)
        · rw [if_neg hc8] at h
          refine k_aloadn (pc := 42) C dX11_good_42 (i := 0) rfl 0 rfl ?_
          obtain ⟨hs90, h⟩ := gp_e h
          have hs9 := sok_e hs90
          obtain ⟨b10, hb10, h⟩ := rl_e h
          refine k_getR (pc := 43) C lkF_RX11_12_11 hs9 ir_11_0 hb10 dX11_good_43 ?_
          refine k_iloadn (pc := 46) C dX11_good_46 (i := 1) rfl 1 rfl ?_
          refine k_iloadn (pc := 47) C dX11_good_47 (i := 2) rfl 2 rfl ?_
          refine k_iloadn (pc := 48) C dX11_good_48 (i := 3) rfl 3 rfl ?_
          refine k_iload (pc := 49) C dX11_good_49 4 rfl ?_
          obtain ⟨hs110, h⟩ := gp_e h
          have hs11 := sok_e hs110
          obtain ⟨r12, hr12, h⟩ := bd_e h
          refine k_V (pc := 51) (st := []) C (c_X7_add hr12) lkV_RX11_59 hs11 rfl rfl rfl (Nat.le_of_ble_eq_true rfl) (Nat.le_of_ble_eq_true rfl) (Nat.le_of_ble_eq_true rfl) (Nat.le_of_ble_eq_true rfl) (Nat.le_of_ble_eq_true rfl) dX11_good_51 ?_
          refine k_nf (cells2 := 0) (slots2 := 0) (st2 := [.int r12.2]) rfl rfl rfl ?_
          have h := Option.some.inj h
          subst h
          exact k_iret (pc := 54) C hr hk dX11_good_54
        · rw [if_pos hc8] at h
          refine k_iconst (pc := 40) C (v := (-1 : Int32)) dX11_good_40 (by decide) ?_
          have h := Option.some.inj h
          subst h
          exact k_iret (pc := 41) C hr hk dX11_good_41
theorem c_X11_good {E : Ev} {l : Launch} {S : Sh} {R : Rw} {I : Iw} {a0 : Nat} {x1 : Int32} {x2 : Int32} {x3 : Int32} {x4 : Int32} {r : Iw × Int32} (h : f_X11_good S R I a0 x1 x2 x3 x4 = some r) : Mt E l yX11_good cX11_good 5 (some .int) 6 136 [.ref (E.1 + a0), .int x1, .int x2, .int x3, .int x4] S R I S R r.1 (some (.int r.2)) 0 0 := mt_of (by decide) (Nat.le_of_ble_eq_true rfl) (fun p e s m args below meth c C hr hk hn => b_X11_good C hr hk _ _ _ _ _ _ h)
theorem lkF_RX11_89_7 : LkF RX11 89 7 6 := ⟨RX7, TX7, 16, "UnlikeNeighbours$Shed", fc7, by decide, (t1_in 86 (by decide +kernel) rfl), Or.inl rfl⟩
theorem lkV_RX11_93 : LkV RX11 93 RX7 yX7_last cX7_last 1 (some .int) 0 := ⟨(t2_in 100 (by decide +kernel) rfl), (t2_in 101 (by decide +kernel) rfl), (t2_in 102 (by decide +kernel) rfl), (t2_in 103 (by decide +kernel) rfl), (t1_in 2 (by decide +kernel) rfl), by decide, by decide +kernel⟩
theorem lkV_RX11_97 : LkV RX11 97 RX7 yX7_mayGo cX7_mayGo 4 (some .int) 2 := ⟨(t2_in 104 (by decide +kernel) rfl), (t2_in 105 (by decide +kernel) rfl), (t2_in 106 (by decide +kernel) rfl), (t2_in 107 (by decide +kernel) rfl), (t1_in 2 (by decide +kernel) rfl), by decide, by decide +kernel⟩
theorem lkS_RX11_101 : LkS RX11 101 yX11_holds cX11_holds 2 (some .boolean) 2 := ⟨(t2_in 115 (by decide +kernel) rfl), (t2_in 113 (by decide +kernel) rfl), (t2_in 114 (by decide +kernel) rfl), (t1_in 1 (by decide +kernel) rfl), by decide, by decide +kernel⟩
theorem lkV_RX11_105 : LkV RX11 105 RX7 yX7_topsOf cX7_topsOf 5 (some .int) 1 := ⟨(t2_in 116 (by decide +kernel) rfl), (t2_in 109 (by decide +kernel) rfl), (t2_in 110 (by decide +kernel) rfl), (t2_in 111 (by decide +kernel) rfl), (t1_in 2 (by decide +kernel) rfl), by decide, by decide +kernel⟩
theorem dX11_standing_0 : decode cX11_standing 0 = .ok (.aload_n 0, 1) := by decide +kernel
theorem dX11_standing_1 : decode cX11_standing 1 = .ok (.getfield 12, 3) := by decide +kernel
theorem dX11_standing_4 : decode cX11_standing 4 = .ok (.aload_n 0, 1) := by decide +kernel
theorem dX11_standing_5 : decode cX11_standing 5 = .ok (.getfield 12, 3) := by decide +kernel
theorem dX11_standing_8 : decode cX11_standing 8 = .ok (.getfield 89, 3) := by decide +kernel
theorem dX11_standing_11 : decode cX11_standing 11 = .ok (.aload_n 0, 1) := by decide +kernel
theorem dX11_standing_12 : decode cX11_standing 12 = .ok (.getfield 12, 3) := by decide +kernel
theorem dX11_standing_15 : decode cX11_standing 15 = .ok (.invokevirtual 93, 3) := by decide +kernel
theorem dX11_standing_18 : decode cX11_standing 18 = .ok (.invokevirtual 97, 3) := by decide +kernel
theorem dX11_standing_21 : decode cX11_standing 21 = .ok (.iload_n 1, 1) := by decide +kernel
theorem dX11_standing_22 : decode cX11_standing 22 = .ok (.invokestatic 101, 3) := by decide +kernel
theorem dX11_standing_25 : decode cX11_standing 25 = .ok (.ifCond .eq 5, 3) := by decide +kernel
theorem dX11_standing_28 : decode cX11_standing 28 = .ok (.iconst 3, 1) := by decide +kernel
theorem dX11_standing_29 : decode cX11_standing 29 = .ok (.ireturn, 1) := by decide +kernel
theorem dX11_standing_30 : decode cX11_standing 30 = .ok (.aload_n 0, 1) := by decide +kernel
theorem dX11_standing_31 : decode cX11_standing 31 = .ok (.getfield 12, 3) := by decide +kernel
theorem dX11_standing_34 : decode cX11_standing 34 = .ok (.aload_n 0, 1) := by decide +kernel
theorem dX11_standing_35 : decode cX11_standing 35 = .ok (.getfield 12, 3) := by decide +kernel
theorem dX11_standing_38 : decode cX11_standing 38 = .ok (.getfield 89, 3) := by decide +kernel
theorem dX11_standing_41 : decode cX11_standing 41 = .ok (.invokevirtual 105, 3) := by decide +kernel
theorem dX11_standing_44 : decode cX11_standing 44 = .ok (.iload_n 1, 1) := by decide +kernel
theorem dX11_standing_45 : decode cX11_standing 45 = .ok (.invokestatic 101, 3) := by decide +kernel
theorem dX11_standing_48 : decode cX11_standing 48 = .ok (.ifCond .eq 5, 3) := by decide +kernel
theorem dX11_standing_51 : decode cX11_standing 51 = .ok (.iconst 2, 1) := by decide +kernel
theorem dX11_standing_52 : decode cX11_standing 52 = .ok (.ireturn, 1) := by decide +kernel
theorem dX11_standing_53 : decode cX11_standing 53 = .ok (.aload_n 0, 1) := by decide +kernel
theorem dX11_standing_54 : decode cX11_standing 54 = .ok (.getfield 12, 3) := by decide +kernel
theorem dX11_standing_57 : decode cX11_standing 57 = .ok (.getfield 89, 3) := by decide +kernel
theorem dX11_standing_60 : decode cX11_standing 60 = .ok (.iload_n 1, 1) := by decide +kernel
theorem dX11_standing_61 : decode cX11_standing 61 = .ok (.invokestatic 101, 3) := by decide +kernel
theorem dX11_standing_64 : decode cX11_standing 64 = .ok (.ifCond .eq 7, 3) := by decide +kernel
theorem dX11_standing_67 : decode cX11_standing 67 = .ok (.iconst 1, 1) := by decide +kernel
theorem dX11_standing_68 : decode cX11_standing 68 = .ok (.goto 4, 3) := by decide +kernel
theorem dX11_standing_71 : decode cX11_standing 71 = .ok (.iconst 0, 1) := by decide +kernel
theorem dX11_standing_72 : decode cX11_standing 72 = .ok (.ireturn, 1) := by decide +kernel
def f_X11_standing (S : Sh) (R : Rw) (I : Iw)  (a0 : Nat) (x1 : Int32) : Option (Int32) := gp (sok S a0 11 12) (rl (R a0 0) (fun b2 => rl (R a0 0) (fun b3 => gp (sok S b3 7 16) (rl (R a0 0) (fun b5 => gp (sok S b5 7 16) (bd (f_X7_last S R I b5) (fun r7 => gp (sok S b2 7 16) (bd (f_X7_mayGo S R I b2 (I b3 6) r7) (fun r9 => bd (f_X11_holds S R I r9 x1) (fun r10 => (if r10 = 0 then rl (R a0 0) (fun b12 => rl (R a0 0) (fun b13 => gp (sok S b13 7 16) (gp (sok S b12 7 16) (bd (f_X7_topsOf S R I b12 (I b13 6)) (fun r16 => bd (f_X11_holds S R I r16 x1) (fun r17 => (if r17 = 0 then rl (R a0 0) (fun b19 => gp (sok S b19 7 16) (bd (f_X11_holds S R I (I b19 6) x1) (fun r21 => (if r21 = 0 then some (0 : Int32) else some (1 : Int32))))) else some (2 : Int32)))))))) else some (3 : Int32))))))))))))
set_option maxHeartbeats 4000000 in
theorem b_X11_standing {E : Ev} {p : Program} {l : Launch} {e : Env} {s : State} {m : MethodId} {args : Array Value} {below : List Frame} {meth : Method} {c : Code} (C : Cx E RX11 cX11_standing 2 p s m c) (hr : meth.sig.returnType = (some .int)) (hk : meth.locks = false) {S : Sh} {R : Rw} {I : Iw} {r : Int32}  : ∀ (a0 : Nat) (x1 : Int32), f_X11_standing S R I   a0 x1 = some r → Wk E 2 p l e ({ frames := 3, cells := 0, slots := 0, locals := 68 } : Room) s m args below meth c 0 0 (MQ below (Qw E S R I (some (.int r))) args s 0 0 (fun q => E.1 ≤ q)) 0 [(0, .ref (E.1 + a0)), (1, .int x1)] [] S R I := by
  intro a0 x1 h
  rw [f_X11_standing] at h
  refine k_aloadn (pc := 0) C dX11_standing_0 (i := 0) rfl 0 rfl ?_
  obtain ⟨hs10, h⟩ := gp_e h
  have hs1 := sok_e hs10
  obtain ⟨b2, hb2, h⟩ := rl_e h
  refine k_getR (pc := 1) C lkF_RX11_12_11 hs1 ir_11_0 hb2 dX11_standing_1 ?_
  refine k_aloadn (pc := 4) C dX11_standing_4 (i := 0) rfl 0 rfl ?_
  obtain ⟨b3, hb3, h⟩ := rl_e h
  refine k_getR (pc := 5) C lkF_RX11_12_11 hs1 ir_11_0 hb3 dX11_standing_5 ?_
  obtain ⟨hs40, h⟩ := gp_e h
  have hs4 := sok_e hs40
  refine k_getI (pc := 8) C lkF_RX11_89_7 hs4 ir_7_6 dX11_standing_8 ?_
  refine k_aloadn (pc := 11) C dX11_standing_11 (i := 0) rfl 0 rfl ?_
  obtain ⟨b5, hb5, h⟩ := rl_e h
  refine k_getR (pc := 12) C lkF_RX11_12_11 hs1 ir_11_0 hb5 dX11_standing_12 ?_
  obtain ⟨hs60, h⟩ := gp_e h
  have hs6 := sok_e hs60
  obtain ⟨r7, hr7, h⟩ := bd_e h
  refine k_V (pc := 15) (st := [.int (I b3 6), .ref (E.1 + b2)]) C (c_X7_last hr7) lkV_RX11_93 hs6 rfl rfl rfl (Nat.le_of_ble_eq_true rfl) (Nat.le_of_ble_eq_true rfl) (Nat.le_of_ble_eq_true rfl) (Nat.le_of_ble_eq_true rfl) (Nat.le_of_ble_eq_true rfl) dX11_standing_15 ?_
  refine k_nf (cells2 := 0) (slots2 := 0) (st2 := [.int r7, .int (I b3 6), .ref (E.1 + b2)]) rfl rfl rfl ?_
  obtain ⟨hs80, h⟩ := gp_e h
  have hs8 := sok_e hs80
  obtain ⟨r9, hr9, h⟩ := bd_e h
  refine k_V (pc := 18) (st := []) C (c_X7_mayGo hr9) lkV_RX11_97 hs8 rfl rfl rfl (Nat.le_of_ble_eq_true rfl) (Nat.le_of_ble_eq_true rfl) (Nat.le_of_ble_eq_true rfl) (Nat.le_of_ble_eq_true rfl) (Nat.le_of_ble_eq_true rfl) dX11_standing_18 ?_
  refine k_nf (cells2 := 0) (slots2 := 0) (st2 := [.int r9]) rfl rfl rfl ?_
  refine k_iloadn (pc := 21) C dX11_standing_21 (i := 1) rfl 1 rfl ?_
  obtain ⟨r10, hr10, h⟩ := bd_e h
  refine k_S (pc := 22) (st := []) C (c_X11_holds hr10) lkS_RX11_101 rfl rfl (Nat.le_of_ble_eq_true rfl) (Nat.le_of_ble_eq_true rfl) (Nat.le_of_ble_eq_true rfl) (Nat.le_of_ble_eq_true rfl) (Nat.le_of_ble_eq_true rfl) dX11_standing_22 ?_
  refine k_nf (cells2 := 0) (slots2 := 0) (st2 := [.int r10]) rfl rfl rfl ?_
  refine k_if_eq (pc := 25) C dX11_standing_25 (tgt := 30) (by decide) (fun hc11 => ?_) (fun hc11 => ?_)
  · rw [if_pos hc11] at h
    refine k_aloadn (pc := 30) C dX11_standing_30 (i := 0) rfl 0 rfl ?_
    obtain ⟨b12, hb12, h⟩ := rl_e h
    refine k_getR (pc := 31) C lkF_RX11_12_11 hs1 ir_11_0 hb12 dX11_standing_31 ?_
    refine k_aloadn (pc := 34) C dX11_standing_34 (i := 0) rfl 0 rfl ?_
    obtain ⟨b13, hb13, h⟩ := rl_e h
    refine k_getR (pc := 35) C lkF_RX11_12_11 hs1 ir_11_0 hb13 dX11_standing_35 ?_
    obtain ⟨hs140, h⟩ := gp_e h
    have hs14 := sok_e hs140
    refine k_getI (pc := 38) C lkF_RX11_89_7 hs14 ir_7_6 dX11_standing_38 ?_
    obtain ⟨hs150, h⟩ := gp_e h
    have hs15 := sok_e hs150
    obtain ⟨r16, hr16, h⟩ := bd_e h
    refine k_V (pc := 41) (st := []) C (c_X7_topsOf hr16) lkV_RX11_105 hs15 rfl rfl rfl (Nat.le_of_ble_eq_true rfl) (Nat.le_of_ble_eq_true rfl) (Nat.le_of_ble_eq_true rfl) (Nat.le_of_ble_eq_true rfl) (Nat.le_of_ble_eq_true rfl) dX11_standing_41 ?_
    refine k_nf (cells2 := 0) (slots2 := 0) (st2 := [.int r16]) rfl rfl rfl ?_
    refine k_iloadn (pc := 44) C dX11_standing_44 (i := 1) rfl 1 rfl ?_
    obtain ⟨r17, hr17, h⟩ := bd_e h
    refine k_S (pc := 45) (st := []) C (c_X11_holds hr17) lkS_RX11_101 rfl rfl (Nat.le_of_ble_eq_true rfl) (Nat.le_of_ble_eq_true rfl) (Nat.le_of_ble_eq_true rfl) (Nat.le_of_ble_eq_true rfl) (Nat.le_of_ble_eq_true rfl) dX11_standing_45 ?_
    refine k_nf (cells2 := 0) (slots2 := 0) (st2 := [.int r17]) rfl rfl rfl ?_
    refine k_if_eq (pc := 48) C dX11_standing_48 (tgt := 53) (by decide) (fun hc18 => ?_) (fun hc18 => ?_)
    · rw [if_pos hc18] at h
      refine k_aloadn (pc := 53) C dX11_standing_53 (i := 0) rfl 0 rfl ?_
      obtain ⟨b19, hb19, h⟩ := rl_e h
      refine k_getR (pc := 54) C lkF_RX11_12_11 hs1 ir_11_0 hb19 dX11_standing_54 ?_
      obtain ⟨hs200, h⟩ := gp_e h
      have hs20 := sok_e hs200
      refine k_getI (pc := 57) C lkF_RX11_89_7 hs20 ir_7_6 dX11_standing_57 ?_
      refine k_iloadn (pc := 60) C dX11_standing_60 (i := 1) rfl 1 rfl ?_
      obtain ⟨r21, hr21, h⟩ := bd_e h
      refine k_S (pc := 61) (st := []) C (c_X11_holds hr21) lkS_RX11_101 rfl rfl (Nat.le_of_ble_eq_true rfl) (Nat.le_of_ble_eq_true rfl) (Nat.le_of_ble_eq_true rfl) (Nat.le_of_ble_eq_true rfl) (Nat.le_of_ble_eq_true rfl) dX11_standing_61 ?_
      refine k_nf (cells2 := 0) (slots2 := 0) (st2 := [.int r21]) rfl rfl rfl ?_
      refine k_if_eq (pc := 64) C dX11_standing_64 (tgt := 71) (by decide) (fun hc22 => ?_) (fun hc22 => ?_)
      · rw [if_pos hc22] at h
        refine k_iconst (pc := 71) C (v := (0 : Int32)) dX11_standing_71 (by decide) ?_
        have h := Option.some.inj h
        subst h
        exact k_iret (pc := 72) C hr hk dX11_standing_72
      · rw [if_neg hc22] at h
        refine k_iconst (pc := 67) C (v := (1 : Int32)) dX11_standing_67 (by decide) ?_
        refine k_goto (pc := 68) C dX11_standing_68 (tgt := 72) (by decide) ?_
        have h := Option.some.inj h
        subst h
        exact k_iret (pc := 72) C hr hk dX11_standing_72
    · rw [if_neg hc18] at h
      refine k_iconst (pc := 51) C (v := (2 : Int32)) dX11_standing_51 (by decide) ?_
      have h := Option.some.inj h
      subst h
      exact k_iret (pc := 52) C hr hk dX11_standing_52
  · rw [if_neg hc11] at h
    refine k_iconst (pc := 28) C (v := (3 : Int32)) dX11_standing_28 (by decide) ?_
    have h := Option.some.inj h
    subst h
    exact k_iret (pc := 29) C hr hk dX11_standing_29
theorem c_X11_standing {E : Ev} {l : Launch} {S : Sh} {R : Rw} {I : Iw} {a0 : Nat} {x1 : Int32} {r : Int32} (h : f_X11_standing S R I a0 x1 = some r) : Mt E l yX11_standing cX11_standing 2 (some .int) 3 68 [.ref (E.1 + a0), .int x1] S R I S R I (some (.int r)) 0 0 := mt_of (by decide) (Nat.le_of_ble_eq_true rfl) (fun p e s m args below meth c C hr hk hn => b_X11_standing C hr hk _ _ h)
theorem lkV_RX11_63 : LkV RX11 63 RX7 yX7_has cX7_has 2 (some .boolean) 1 := ⟨(t2_in 64 (by decide +kernel) rfl), (t2_in 65 (by decide +kernel) rfl), (t2_in 66 (by decide +kernel) rfl), (t2_in 67 (by decide +kernel) rfl), (t1_in 2 (by decide +kernel) rfl), by decide, by decide +kernel⟩
theorem lkF_RX11_67_7 : LkF RX11 67 7 0 := ⟨RX7, TX7, 16, "UnlikeNeighbours$Shed", fc7, by decide, (t1_in 70 (by decide +kernel) rfl), Or.inl rfl⟩
theorem lkF_RX11_70_7 : LkF RX11 70 7 1 := ⟨RX7, TX7, 16, "UnlikeNeighbours$Shed", fc7, by decide, (t1_in 73 (by decide +kernel) rfl), Or.inl rfl⟩
theorem lkF_RX11_73_7 : LkF RX11 73 7 2 := ⟨RX7, TX7, 16, "UnlikeNeighbours$Shed", fc7, by decide, (t1_in 75 (by decide +kernel) rfl), Or.inl rfl⟩
theorem lkF_RX11_76_7 : LkF RX11 76 7 3 := ⟨RX7, TX7, 16, "UnlikeNeighbours$Shed", fc7, by decide, (t1_in 78 (by decide +kernel) rfl), Or.inl rfl⟩
theorem lkV_RX11_79 : LkV RX11 79 RX7 yX7_fee cX7_fee 3 (some .int) 1 := ⟨(t2_in 68 (by decide +kernel) rfl), (t2_in 69 (by decide +kernel) rfl), (t2_in 70 (by decide +kernel) rfl), (t2_in 71 (by decide +kernel) rfl), (t1_in 2 (by decide +kernel) rfl), by decide, by decide +kernel⟩
theorem lkV_RX11_83 : LkV RX11 83 RX11 yX11_standing cX11_standing 2 (some .int) 1 := ⟨(t2_in 96 (by decide +kernel) rfl), (t2_in 98 (by decide +kernel) rfl), (t0_in 5 (by decide +kernel) rfl), (t2_in 99 (by decide +kernel) rfl), (t1_in 1 (by decide +kernel) rfl), by decide, by decide +kernel⟩
theorem lkV_RX11_86 : LkV RX11 86 RX7 yX7_placeInLine cX7_placeInLine 3 (some .int) 1 := ⟨(t2_in 117 (by decide +kernel) rfl), (t2_in 118 (by decide +kernel) rfl), (t2_in 119 (by decide +kernel) rfl), (t2_in 120 (by decide +kernel) rfl), (t1_in 2 (by decide +kernel) rfl), by decide, by decide +kernel⟩
theorem dX11_goodOf_0 : decode cX11_goodOf 0 = .ok (.aload_n 0, 1) := by decide +kernel
theorem dX11_goodOf_1 : decode cX11_goodOf 1 = .ok (.getfield 12, 3) := by decide +kernel
theorem dX11_goodOf_4 : decode cX11_goodOf 4 = .ok (.iload_n 1, 1) := by decide +kernel
theorem dX11_goodOf_5 : decode cX11_goodOf 5 = .ok (.invokevirtual 63, 3) := by decide +kernel
theorem dX11_goodOf_8 : decode cX11_goodOf 8 = .ok (.ifCond .ne 5, 3) := by decide +kernel
theorem dX11_goodOf_11 : decode cX11_goodOf 11 = .ok (.iconst (-1), 1) := by decide +kernel
theorem dX11_goodOf_12 : decode cX11_goodOf 12 = .ok (.ireturn, 1) := by decide +kernel
theorem dX11_goodOf_13 : decode cX11_goodOf 13 = .ok (.iload_n 2, 1) := by decide +kernel
theorem dX11_goodOf_14 : decode cX11_goodOf 14 = .ok (.tableswitch 106 0 6 #[42, 52, 62, 72, 82, 91, 97], 42) := by decide +kernel
theorem dX11_goodOf_56 : decode cX11_goodOf 56 = .ok (.aload_n 0, 1) := by decide +kernel
theorem dX11_goodOf_57 : decode cX11_goodOf 57 = .ok (.getfield 12, 3) := by decide +kernel
theorem dX11_goodOf_60 : decode cX11_goodOf 60 = .ok (.getfield 67, 3) := by decide +kernel
theorem dX11_goodOf_63 : decode cX11_goodOf 63 = .ok (.iload_n 1, 1) := by decide +kernel
theorem dX11_goodOf_64 : decode cX11_goodOf 64 = .ok (.iaload, 1) := by decide +kernel
theorem dX11_goodOf_65 : decode cX11_goodOf 65 = .ok (.ireturn, 1) := by decide +kernel
theorem dX11_goodOf_66 : decode cX11_goodOf 66 = .ok (.aload_n 0, 1) := by decide +kernel
theorem dX11_goodOf_67 : decode cX11_goodOf 67 = .ok (.getfield 12, 3) := by decide +kernel
theorem dX11_goodOf_70 : decode cX11_goodOf 70 = .ok (.getfield 70, 3) := by decide +kernel
theorem dX11_goodOf_73 : decode cX11_goodOf 73 = .ok (.iload_n 1, 1) := by decide +kernel
theorem dX11_goodOf_74 : decode cX11_goodOf 74 = .ok (.iaload, 1) := by decide +kernel
theorem dX11_goodOf_75 : decode cX11_goodOf 75 = .ok (.ireturn, 1) := by decide +kernel
theorem dX11_goodOf_76 : decode cX11_goodOf 76 = .ok (.aload_n 0, 1) := by decide +kernel
theorem dX11_goodOf_77 : decode cX11_goodOf 77 = .ok (.getfield 12, 3) := by decide +kernel
theorem dX11_goodOf_80 : decode cX11_goodOf 80 = .ok (.getfield 73, 3) := by decide +kernel
theorem dX11_goodOf_83 : decode cX11_goodOf 83 = .ok (.iload_n 1, 1) := by decide +kernel
theorem dX11_goodOf_84 : decode cX11_goodOf 84 = .ok (.iaload, 1) := by decide +kernel
theorem dX11_goodOf_85 : decode cX11_goodOf 85 = .ok (.ireturn, 1) := by decide +kernel
theorem dX11_goodOf_86 : decode cX11_goodOf 86 = .ok (.aload_n 0, 1) := by decide +kernel
theorem dX11_goodOf_87 : decode cX11_goodOf 87 = .ok (.getfield 12, 3) := by decide +kernel
theorem dX11_goodOf_90 : decode cX11_goodOf 90 = .ok (.getfield 76, 3) := by decide +kernel
theorem dX11_goodOf_93 : decode cX11_goodOf 93 = .ok (.iload_n 1, 1) := by decide +kernel
theorem dX11_goodOf_94 : decode cX11_goodOf 94 = .ok (.iaload, 1) := by decide +kernel
theorem dX11_goodOf_95 : decode cX11_goodOf 95 = .ok (.ireturn, 1) := by decide +kernel
theorem dX11_goodOf_96 : decode cX11_goodOf 96 = .ok (.aload_n 0, 1) := by decide +kernel
theorem dX11_goodOf_97 : decode cX11_goodOf 97 = .ok (.getfield 12, 3) := by decide +kernel
theorem dX11_goodOf_100 : decode cX11_goodOf 100 = .ok (.iload_n 1, 1) := by decide +kernel
theorem dX11_goodOf_101 : decode cX11_goodOf 101 = .ok (.invokevirtual 79, 3) := by decide +kernel
theorem dX11_goodOf_104 : decode cX11_goodOf 104 = .ok (.ireturn, 1) := by decide +kernel
theorem dX11_goodOf_105 : decode cX11_goodOf 105 = .ok (.aload_n 0, 1) := by decide +kernel
theorem dX11_goodOf_106 : decode cX11_goodOf 106 = .ok (.iload_n 1, 1) := by decide +kernel
theorem dX11_goodOf_107 : decode cX11_goodOf 107 = .ok (.invokevirtual 83, 3) := by decide +kernel
theorem dX11_goodOf_110 : decode cX11_goodOf 110 = .ok (.ireturn, 1) := by decide +kernel
theorem dX11_goodOf_111 : decode cX11_goodOf 111 = .ok (.aload_n 0, 1) := by decide +kernel
theorem dX11_goodOf_112 : decode cX11_goodOf 112 = .ok (.getfield 12, 3) := by decide +kernel
theorem dX11_goodOf_115 : decode cX11_goodOf 115 = .ok (.iload_n 1, 1) := by decide +kernel
theorem dX11_goodOf_116 : decode cX11_goodOf 116 = .ok (.invokevirtual 86, 3) := by decide +kernel
theorem dX11_goodOf_119 : decode cX11_goodOf 119 = .ok (.ireturn, 1) := by decide +kernel
theorem dX11_goodOf_120 : decode cX11_goodOf 120 = .ok (.iconst (-1), 1) := by decide +kernel
theorem dX11_goodOf_121 : decode cX11_goodOf 121 = .ok (.ireturn, 1) := by decide +kernel
def f_X11_goodOf (S : Sh) (R : Rw) (I : Iw)  (a0 : Nat) (x1 : Int32) (x2 : Int32) : Option (Int32) := gp (sok S a0 11 12) (rl (R a0 0) (fun b2 => gp (sok S b2 7 16) (bd (f_X7_has S R I b2 x1) (fun r4 => (if r4 = 0 then some (-1 : Int32) else (if x2 = (0 : Int32) then rl (R a0 0) (fun b6 => gp (sok S b6 7 16) (rl (R b6 0) (fun b8 => gp (aok S 20 b8 x1) (some (I b8 x1.toNatClampNeg))))) else (if x2 = (1 : Int32) then rl (R a0 0) (fun b10 => gp (sok S b10 7 16) (rl (R b10 1) (fun b12 => gp (aok S 20 b12 x1) (some (I b12 x1.toNatClampNeg))))) else (if x2 = (2 : Int32) then rl (R a0 0) (fun b14 => gp (sok S b14 7 16) (rl (R b14 2) (fun b16 => gp (aok S 20 b16 x1) (some (I b16 x1.toNatClampNeg))))) else (if x2 = (3 : Int32) then rl (R a0 0) (fun b18 => gp (sok S b18 7 16) (rl (R b18 3) (fun b20 => gp (aok S 20 b20 x1) (some (I b20 x1.toNatClampNeg))))) else (if x2 = (4 : Int32) then rl (R a0 0) (fun b22 => gp (sok S b22 7 16) (bd (f_X7_fee S R I b22 x1) (fun r24 => some r24))) else (if x2 = (5 : Int32) then bd (f_X11_standing S R I a0 x1) (fun r25 => some r25) else (if x2 = (6 : Int32) then rl (R a0 0) (fun b26 => gp (sok S b26 7 16) (bd (f_X7_placeInLine S R I b26 x1) (fun r28 => some r28))) else some (-1 : Int32)))))))))))))
set_option maxHeartbeats 4000000 in
theorem b_X11_goodOf {E : Ev} {p : Program} {l : Launch} {e : Env} {s : State} {m : MethodId} {args : Array Value} {below : List Frame} {meth : Method} {c : Code} (C : Cx E RX11 cX11_goodOf 3 p s m c) (hr : meth.sig.returnType = (some .int)) (hk : meth.locks = false) {S : Sh} {R : Rw} {I : Iw} {r : Int32}  : ∀ (a0 : Nat) (x1 : Int32) (x2 : Int32), f_X11_goodOf S R I   a0 x1 x2 = some r → Wk E 3 p l e ({ frames := 5, cells := 0, slots := 0, locals := 117 } : Room) s m args below meth c 0 0 (MQ below (Qw E S R I (some (.int r))) args s 0 0 (fun q => E.1 ≤ q)) 0 [(0, .ref (E.1 + a0)), (1, .int x1), (2, .int x2)] [] S R I := by
  intro a0 x1 x2 h
  rw [f_X11_goodOf] at h
  refine k_aloadn (pc := 0) C dX11_goodOf_0 (i := 0) rfl 0 rfl ?_
  obtain ⟨hs10, h⟩ := gp_e h
  have hs1 := sok_e hs10
  obtain ⟨b2, hb2, h⟩ := rl_e h
  refine k_getR (pc := 1) C lkF_RX11_12_11 hs1 ir_11_0 hb2 dX11_goodOf_1 ?_
  refine k_iloadn (pc := 4) C dX11_goodOf_4 (i := 1) rfl 1 rfl ?_
  obtain ⟨hs30, h⟩ := gp_e h
  have hs3 := sok_e hs30
  obtain ⟨r4, hr4, h⟩ := bd_e h
  refine k_V (pc := 5) (st := []) C (c_X7_has hr4) lkV_RX11_63 hs3 rfl rfl rfl (Nat.le_of_ble_eq_true rfl) (Nat.le_of_ble_eq_true rfl) (Nat.le_of_ble_eq_true rfl) (Nat.le_of_ble_eq_true rfl) (Nat.le_of_ble_eq_true rfl) dX11_goodOf_5 ?_
  refine k_nf (cells2 := 0) (slots2 := 0) (st2 := [.int r4]) rfl rfl rfl ?_
  refine k_if_ne (pc := 8) C dX11_goodOf_8 (tgt := 13) (by decide) (fun hc5 => ?_) (fun hc5 => ?_)
  · rw [if_neg hc5] at h
    refine k_iloadn (pc := 13) C dX11_goodOf_13 (i := 2) rfl 2 rfl ?_
    by_cases hc29 : x2 = (0 : Int32)
    · rw [if_pos hc29] at h
      refine k_tabIn (pc := 14) C dX11_goodOf_14 (by rw [hc29]; decide) (by rw [hc29]; decide) (off := 42) (by rw [hc29]; rfl) (tgt := 56) (by decide) ?_
      refine k_aloadn (pc := 56) C dX11_goodOf_56 (i := 0) rfl 0 rfl ?_
      obtain ⟨b6, hb6, h⟩ := rl_e h
      refine k_getR (pc := 57) C lkF_RX11_12_11 hs1 ir_11_0 hb6 dX11_goodOf_57 ?_
      obtain ⟨hs70, h⟩ := gp_e h
      have hs7 := sok_e hs70
      obtain ⟨b8, hb8, h⟩ := rl_e h
      refine k_getR (pc := 60) C lkF_RX11_67_7 hs7 ir_7_0 hb8 dX11_goodOf_60 ?_
      refine k_iloadn (pc := 63) C dX11_goodOf_63 (i := 1) rfl 1 rfl ?_
      obtain ⟨ha9, h⟩ := gp_e h
      refine k_iald (pc := 64) C ha9 dX11_goodOf_64 ?_
      have h := Option.some.inj h
      subst h
      exact k_iret (pc := 65) C hr hk dX11_goodOf_65
    · rw [if_neg hc29] at h
      by_cases hc30 : x2 = (1 : Int32)
      · rw [if_pos hc30] at h
        refine k_tabIn (pc := 14) C dX11_goodOf_14 (by rw [hc30]; decide) (by rw [hc30]; decide) (off := 52) (by rw [hc30]; rfl) (tgt := 66) (by decide) ?_
        refine k_aloadn (pc := 66) C dX11_goodOf_66 (i := 0) rfl 0 rfl ?_
        obtain ⟨b10, hb10, h⟩ := rl_e h
        refine k_getR (pc := 67) C lkF_RX11_12_11 hs1 ir_11_0 hb10 dX11_goodOf_67 ?_
        obtain ⟨hs110, h⟩ := gp_e h
        have hs11 := sok_e hs110
        obtain ⟨b12, hb12, h⟩ := rl_e h
        refine k_getR (pc := 70) C lkF_RX11_70_7 hs11 ir_7_1 hb12 dX11_goodOf_70 ?_
        refine k_iloadn (pc := 73) C dX11_goodOf_73 (i := 1) rfl 1 rfl ?_
        obtain ⟨ha13, h⟩ := gp_e h
        refine k_iald (pc := 74) C ha13 dX11_goodOf_74 ?_
        have h := Option.some.inj h
        subst h
        exact k_iret (pc := 75) C hr hk dX11_goodOf_75
      · rw [if_neg hc30] at h
        by_cases hc31 : x2 = (2 : Int32)
        · rw [if_pos hc31] at h
          refine k_tabIn (pc := 14) C dX11_goodOf_14 (by rw [hc31]; decide) (by rw [hc31]; decide) (off := 62) (by rw [hc31]; rfl) (tgt := 76) (by decide) ?_
          refine k_aloadn (pc := 76) C dX11_goodOf_76 (i := 0) rfl 0 rfl ?_
          obtain ⟨b14, hb14, h⟩ := rl_e h
          refine k_getR (pc := 77) C lkF_RX11_12_11 hs1 ir_11_0 hb14 dX11_goodOf_77 ?_
          obtain ⟨hs150, h⟩ := gp_e h
          have hs15 := sok_e hs150
          obtain ⟨b16, hb16, h⟩ := rl_e h
          refine k_getR (pc := 80) C lkF_RX11_73_7 hs15 ir_7_2 hb16 dX11_goodOf_80 ?_
          refine k_iloadn (pc := 83) C dX11_goodOf_83 (i := 1) rfl 1 rfl ?_
          obtain ⟨ha17, h⟩ := gp_e h
          refine k_iald (pc := 84) C ha17 dX11_goodOf_84 ?_
          have h := Option.some.inj h
          subst h
          exact k_iret (pc := 85) C hr hk dX11_goodOf_85
        · rw [if_neg hc31] at h
          by_cases hc32 : x2 = (3 : Int32)
          · rw [if_pos hc32] at h
            refine k_tabIn (pc := 14) C dX11_goodOf_14 (by rw [hc32]; decide) (by rw [hc32]; decide) (off := 72) (by rw [hc32]; rfl) (tgt := 86) (by decide) ?_
            refine k_aloadn (pc := 86) C dX11_goodOf_86 (i := 0) rfl 0 rfl ?_
            obtain ⟨b18, hb18, h⟩ := rl_e h
            refine k_getR (pc := 87) C lkF_RX11_12_11 hs1 ir_11_0 hb18 dX11_goodOf_87 ?_
            obtain ⟨hs190, h⟩ := gp_e h
            have hs19 := sok_e hs190
            obtain ⟨b20, hb20, h⟩ := rl_e h
            refine k_getR (pc := 90) C lkF_RX11_76_7 hs19 ir_7_3 hb20 dX11_goodOf_90 ?_
            refine k_iloadn (pc := 93) C dX11_goodOf_93 (i := 1) rfl 1 rfl ?_
            obtain ⟨ha21, h⟩ := gp_e h
            refine k_iald (pc := 94) C ha21 dX11_goodOf_94 ?_
            have h := Option.some.inj h
            subst h
            exact k_iret (pc := 95) C hr hk dX11_goodOf_95
          · rw [if_neg hc32] at h
            by_cases hc33 : x2 = (4 : Int32)
            · rw [if_pos hc33] at h
              refine k_tabIn (pc := 14) C dX11_goodOf_14 (by rw [hc33]; decide) (by rw [hc33]; decide) (off := 82) (by rw [hc33]; rfl) (tgt := 96) (by decide) ?_
              refine k_aloadn (pc := 96) C dX11_goodOf_96 (i := 0) rfl 0 rfl ?_
              obtain ⟨b22, hb22, h⟩ := rl_e h
              refine k_getR (pc := 97) C lkF_RX11_12_11 hs1 ir_11_0 hb22 dX11_goodOf_97 ?_
              refine k_iloadn (pc := 100) C dX11_goodOf_100 (i := 1) rfl 1 rfl ?_
              obtain ⟨hs230, h⟩ := gp_e h
              have hs23 := sok_e hs230
              obtain ⟨r24, hr24, h⟩ := bd_e h
              refine k_V (pc := 101) (st := []) C (c_X7_fee hr24) lkV_RX11_79 hs23 rfl rfl rfl (Nat.le_of_ble_eq_true rfl) (Nat.le_of_ble_eq_true rfl) (Nat.le_of_ble_eq_true rfl) (Nat.le_of_ble_eq_true rfl) (Nat.le_of_ble_eq_true rfl) dX11_goodOf_101 ?_
              refine k_nf (cells2 := 0) (slots2 := 0) (st2 := [.int r24]) rfl rfl rfl ?_
              have h := Option.some.inj h
              subst h
              exact k_iret (pc := 104) C hr hk dX11_goodOf_104
            · rw [if_neg hc33] at h
              by_cases hc34 : x2 = (5 : Int32)
              · rw [if_pos hc34] at h
                refine k_tabIn (pc := 14) C dX11_goodOf_14 (by rw [hc34]; decide) (by rw [hc34]; decide) (off := 91) (by rw [hc34]; rfl) (tgt := 105) (by decide) ?_
                refine k_aloadn (pc := 105) C dX11_goodOf_105 (i := 0) rfl 0 rfl ?_
                refine k_iloadn (pc := 106) C dX11_goodOf_106 (i := 1) rfl 1 rfl ?_
                obtain ⟨r25, hr25, h⟩ := bd_e h
                refine k_V (pc := 107) (st := []) C (c_X11_standing hr25) lkV_RX11_83 hs1 rfl rfl rfl (Nat.le_of_ble_eq_true rfl) (Nat.le_of_ble_eq_true rfl) (Nat.le_of_ble_eq_true rfl) (Nat.le_of_ble_eq_true rfl) (Nat.le_of_ble_eq_true rfl) dX11_goodOf_107 ?_
                refine k_nf (cells2 := 0) (slots2 := 0) (st2 := [.int r25]) rfl rfl rfl ?_
                have h := Option.some.inj h
                subst h
                exact k_iret (pc := 110) C hr hk dX11_goodOf_110
              · rw [if_neg hc34] at h
                by_cases hc35 : x2 = (6 : Int32)
                · rw [if_pos hc35] at h
                  refine k_tabIn (pc := 14) C dX11_goodOf_14 (by rw [hc35]; decide) (by rw [hc35]; decide) (off := 97) (by rw [hc35]; rfl) (tgt := 111) (by decide) ?_
                  refine k_aloadn (pc := 111) C dX11_goodOf_111 (i := 0) rfl 0 rfl ?_
                  obtain ⟨b26, hb26, h⟩ := rl_e h
                  refine k_getR (pc := 112) C lkF_RX11_12_11 hs1 ir_11_0 hb26 dX11_goodOf_112 ?_
                  refine k_iloadn (pc := 115) C dX11_goodOf_115 (i := 1) rfl 1 rfl ?_
                  obtain ⟨hs270, h⟩ := gp_e h
                  have hs27 := sok_e hs270
                  obtain ⟨r28, hr28, h⟩ := bd_e h
                  refine k_V (pc := 116) (st := []) C (c_X7_placeInLine hr28) lkV_RX11_86 hs27 rfl rfl rfl (Nat.le_of_ble_eq_true rfl) (Nat.le_of_ble_eq_true rfl) (Nat.le_of_ble_eq_true rfl) (Nat.le_of_ble_eq_true rfl) (Nat.le_of_ble_eq_true rfl) dX11_goodOf_116 ?_
                  refine k_nf (cells2 := 0) (slots2 := 0) (st2 := [.int r28]) rfl rfl rfl ?_
                  have h := Option.some.inj h
                  subst h
                  exact k_iret (pc := 119) C hr hk dX11_goodOf_119
                · rw [if_neg hc35] at h
                  refine k_tabOut (pc := 14) C dX11_goodOf_14 (tab_out x2 0 6 (fun z h1 h2 hz => by
                    have hz2 : z = 0 ∨ z = 1 ∨ z = 2 ∨ z = 3 ∨ z = 4 ∨ z = 5 ∨ z = 6 := by omega
                    rcases hz2 with rfl | rfl | rfl | rfl | rfl | rfl | rfl
                    · exact hc29 (Int32.toInt_inj.mp (hz.trans (by decide)))
                    · exact hc30 (Int32.toInt_inj.mp (hz.trans (by decide)))
                    · exact hc31 (Int32.toInt_inj.mp (hz.trans (by decide)))
                    · exact hc32 (Int32.toInt_inj.mp (hz.trans (by decide)))
                    · exact hc33 (Int32.toInt_inj.mp (hz.trans (by decide)))
                    · exact hc34 (Int32.toInt_inj.mp (hz.trans (by decide)))
                    · exact hc35 (Int32.toInt_inj.mp (hz.trans (by decide)))
                    ) ) (tgt := 120) (by decide) ?_
                  refine k_iconst (pc := 120) C (v := (-1 : Int32)) dX11_goodOf_120 (by decide) ?_
                  have h := Option.some.inj h
                  subst h
                  exact k_iret (pc := 121) C hr hk dX11_goodOf_121
  · rw [if_pos hc5] at h
    refine k_iconst (pc := 11) C (v := (-1 : Int32)) dX11_goodOf_11 (by decide) ?_
    have h := Option.some.inj h
    subst h
    exact k_iret (pc := 12) C hr hk dX11_goodOf_12
theorem c_X11_goodOf {E : Ev} {l : Launch} {S : Sh} {R : Rw} {I : Iw} {a0 : Nat} {x1 : Int32} {x2 : Int32} {r : Int32} (h : f_X11_goodOf S R I a0 x1 x2 = some r) : Mt E l yX11_goodOf cX11_goodOf 3 (some .int) 5 117 [.ref (E.1 + a0), .int x1, .int x2] S R I S R I (some (.int r)) 0 0 := mt_of (by decide) (Nat.le_of_ble_eq_true rfl) (fun p e s m args below meth c C hr hk hn => b_X11_goodOf C hr hk _ _ _ h)
