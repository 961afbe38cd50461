/-! X6_init, X4_init, X7_init, X7_isNear, X7_standsNear, X7_cameBeside, X7_renewMates -/
theorem lkI_RX6_1 : LkI RX6 1 yX9_init cX9_init 3 2 := ⟨(t4_in 155 (by decide +kernel) rfl), (t4_in 94 (by decide +kernel) rfl), (t4_in 95 (by decide +kernel) rfl), (t1_in 15 (by decide +kernel) rfl), rfl, by decide, by decide +kernel⟩
theorem dX6_init_0 : decode cX6_init 0 = .ok (.aload_n 0, 1) := by decide +kernel
theorem dX6_init_1 : decode cX6_init 1 = .ok (.iload_n 1, 1) := by decide +kernel
theorem dX6_init_2 : decode cX6_init 2 = .ok (.iload_n 2, 1) := by decide +kernel
theorem dX6_init_3 : decode cX6_init 3 = .ok (.invokespecial 1, 3) := by decide +kernel
theorem dX6_init_6 : decode cX6_init 6 = .ok (.return_, 1) := by decide +kernel
def f_X6_init   (S : Sh) (R : Rw) (I : Iw) (a0 : Nat) (x1 : Int32) (x2 : Int32) : Option ((Sh × Rw × Iw)) := bd (f_X9_init S R I a0 x1 x2) (fun r1 => some (r1.1, r1.2.1, r1.2.2))
set_option maxHeartbeats 4000000 in
theorem b_X6_init {E : Ev} {p : Program} {l : Launch} {e : Env} {s : State} {m : MethodId} {args : Array Value} {below : List Frame} {meth : Method} {c : Code} (C : Cx E RX6 cX6_init 3 p s m c) (hr : meth.sig.returnType = none) (hk : meth.locks = false) (hin : meth.name = "<init>") {r : (Sh × Rw × Iw)}  : ∀ (S : Sh) (R : Rw) (I : Iw) (a0 : Nat) (x1 : Int32) (x2 : Int32), f_X6_init    S R I a0 x1 x2 = some r → Wk E 3 p l e ({ frames := 2, cells := 1, slots := 30, locals := 42 } : Room) s m args below meth c 0 0 (MQ below (Qw E r.1 r.2.1 r.2.2 none) args s 1 30 (fun q => E.1 ≤ q)) 0 [(0, .ref (E.1 + a0)), (1, .int x1), (2, .int x2)] [] S R I := by
  intro S R I a0 x1 x2 h
  rw [f_X6_init] at h
  refine k_aloadn (pc := 0) C dX6_init_0 (i := 0) rfl 0 rfl ?_
  refine k_iloadn (pc := 1) C dX6_init_1 (i := 1) rfl 1 rfl ?_
  refine k_iloadn (pc := 2) C dX6_init_2 (i := 2) rfl 2 rfl ?_
  obtain ⟨r1, hr1, h⟩ := bd_e h
  refine k_I (pc := 3) (st := []) C (c_X9_init hr1) lkI_RX6_1 rfl rfl (Nat.le_of_ble_eq_true rfl) (Nat.le_of_ble_eq_true rfl) (Nat.le_of_ble_eq_true rfl) (Nat.le_of_ble_eq_true rfl) (Nat.le_of_ble_eq_true rfl) dX6_init_3 ?_
  refine k_nf (cells2 := 1) (slots2 := 30) (st2 := []) rfl rfl rfl ?_
  have h := Option.some.inj h
  subst h
  exact k_vret (pc := 6) C hr hk dX6_init_6
theorem c_X6_init {E : Ev} {l : Launch} {S : Sh} {R : Rw} {I : Iw} {a0 : Nat} {x1 : Int32} {x2 : Int32} {r : (Sh × Rw × Iw)} (h : f_X6_init S R I a0 x1 x2 = some r) : Mt E l yX6_init cX6_init 3 none 2 42 [.ref (E.1 + a0), .int x1, .int x2] S R I r.1 r.2.1 r.2.2 none 1 30 := mt_of (by decide) (Nat.le_of_ble_eq_true rfl) (fun p e s m args below meth c C hr hk hn => b_X6_init C hr hk hn _ _ _ _ _ _ h)
theorem lkI_RX4_1 : LkI RX4 1 yX6_init cX6_init 3 2 := ⟨(t4_in 167 (by decide +kernel) rfl), (t4_in 153 (by decide +kernel) rfl), (t4_in 154 (by decide +kernel) rfl), (t1_in 19 (by decide +kernel) rfl), rfl, by decide, by decide +kernel⟩
theorem dX4_init_0 : decode cX4_init 0 = .ok (.aload_n 0, 1) := by decide +kernel
theorem dX4_init_1 : decode cX4_init 1 = .ok (.iload_n 1, 1) := by decide +kernel
theorem dX4_init_2 : decode cX4_init 2 = .ok (.iload_n 2, 1) := by decide +kernel
theorem dX4_init_3 : decode cX4_init 3 = .ok (.invokespecial 1, 3) := by decide +kernel
theorem dX4_init_6 : decode cX4_init 6 = .ok (.return_, 1) := by decide +kernel
def f_X4_init   (S : Sh) (R : Rw) (I : Iw) (a0 : Nat) (x1 : Int32) (x2 : Int32) : Option ((Sh × Rw × Iw)) := bd (f_X6_init S R I a0 x1 x2) (fun r1 => some (r1.1, r1.2.1, r1.2.2))
set_option maxHeartbeats 4000000 in
theorem b_X4_init {E : Ev} {p : Program} {l : Launch} {e : Env} {s : State} {m : MethodId} {args : Array Value} {below : List Frame} {meth : Method} {c : Code} (C : Cx E RX4 cX4_init 3 p s m c) (hr : meth.sig.returnType = none) (hk : meth.locks = false) (hin : meth.name = "<init>") {r : (Sh × Rw × Iw)}  : ∀ (S : Sh) (R : Rw) (I : Iw) (a0 : Nat) (x1 : Int32) (x2 : Int32), f_X4_init    S R I a0 x1 x2 = some r → Wk E 3 p l e ({ frames := 3, cells := 1, slots := 30, locals := 64 } : Room) s m args below meth c 0 0 (MQ below (Qw E r.1 r.2.1 r.2.2 none) args s 1 30 (fun q => E.1 ≤ q)) 0 [(0, .ref (E.1 + a0)), (1, .int x1), (2, .int x2)] [] S R I := by
  intro S R I a0 x1 x2 h
  rw [f_X4_init] at h
  refine k_aloadn (pc := 0) C dX4_init_0 (i := 0) rfl 0 rfl ?_
  refine k_iloadn (pc := 1) C dX4_init_1 (i := 1) rfl 1 rfl ?_
  refine k_iloadn (pc := 2) C dX4_init_2 (i := 2) rfl 2 rfl ?_
  obtain ⟨r1, hr1, h⟩ := bd_e h
  refine k_I (pc := 3) (st := []) C (c_X6_init hr1) lkI_RX4_1 rfl rfl (Nat.le_of_ble_eq_true rfl) (Nat.le_of_ble_eq_true rfl) (Nat.le_of_ble_eq_true rfl) (Nat.le_of_ble_eq_true rfl) (Nat.le_of_ble_eq_true rfl) dX4_init_3 ?_
  refine k_nf (cells2 := 1) (slots2 := 30) (st2 := []) rfl rfl rfl ?_
  have h := Option.some.inj h
  subst h
  exact k_vret (pc := 6) C hr hk dX4_init_6
theorem c_X4_init {E : Ev} {l : Launch} {S : Sh} {R : Rw} {I : Iw} {a0 : Nat} {x1 : Int32} {x2 : Int32} {r : (Sh × Rw × Iw)} (h : f_X4_init S R I a0 x1 x2 = some r) : Mt E l yX4_init cX4_init 3 none 3 64 [.ref (E.1 + a0), .int x1, .int x2] S R I r.1 r.2.1 r.2.2 none 1 30 := mt_of (by decide) (Nat.le_of_ble_eq_true rfl) (fun p e s m args below meth c C hr hk hn => b_X4_init C hr hk hn _ _ _ _ _ _ h)
theorem lkQ_RX7_9_7 : LkQ RX7 9 7 0 (.array .int) := ⟨RX7, TX7, 16, "UnlikeNeighbours$Shed", fc7, by decide, (t1_in 69 (by decide +kernel) rfl), Or.inl rfl, rfl, rfl, by decide +kernel⟩
theorem lkQ_RX7_15_7 : LkQ RX7 15 7 1 (.array .int) := ⟨RX7, TX7, 16, "UnlikeNeighbours$Shed", fc7, by decide, (t1_in 72 (by decide +kernel) rfl), Or.inl rfl, rfl, rfl, by decide +kernel⟩
theorem lkQ_RX7_18_7 : LkQ RX7 18 7 2 (.array .int) := ⟨RX7, TX7, 16, "UnlikeNeighbours$Shed", fc7, by decide, (t1_in 74 (by decide +kernel) rfl), Or.inl rfl, rfl, rfl, by decide +kernel⟩
theorem lkQ_RX7_21_7 : LkQ RX7 21 7 3 (.array .int) := ⟨RX7, TX7, 16, "UnlikeNeighbours$Shed", fc7, by decide, (t1_in 77 (by decide +kernel) rfl), Or.inl rfl, rfl, rfl, by decide +kernel⟩
theorem lkQ_RX7_24_7 : LkQ RX7 24 7 4 (.array .int) := ⟨RX7, TX7, 16, "UnlikeNeighbours$Shed", fc7, by decide, (t1_in 80 (by decide +kernel) rfl), Or.inl rfl, rfl, rfl, by decide +kernel⟩
theorem lkQ_RX7_27_7 : LkQ RX7 27 7 7 (.array .int) := ⟨RX7, TX7, 16, "UnlikeNeighbours$Shed", fc7, by decide, (t1_in 87 (by decide +kernel) rfl), Or.inl rfl, rfl, rfl, by decide +kernel⟩
theorem lkP_RX7_30_7 : LkP RX7 30 7 9 .int := ⟨RX7, TX7, 16, "UnlikeNeighbours$Shed", fc7, by decide, (t1_in 91 (by decide +kernel) rfl), Or.inl rfl, rfl, by decide +kernel⟩
theorem lkN_RX7_34 : LkN RX7 34 5 8 := ⟨RX5, TX5, fc5, ⟨tyX5, tyX5_ok, by decide +kernel⟩, (t1_in 35 (by decide +kernel) rfl), (t1_in 36 (by decide +kernel) rfl), (t1_in 3 (by decide +kernel) rfl)⟩
theorem lkIN_RX7_36 : LkIN RX7 36 yX5_init "UnlikeNeighbours" cX5_init 1 0 := ⟨l1_in 37 (by decide +kernel), (t1_in 38 (by decide +kernel) rfl), (t1_in 39 (by decide +kernel) rfl), (t1_in 3 (by decide +kernel) rfl), rfl, by decide, by decide +kernel⟩
theorem lkQ_RX7_37_7 : LkQ RX7 37 7 11 (.object "UnlikeNeighbours$Rules") := ⟨RX7, TX7, 16, "UnlikeNeighbours$Shed", fc7, by decide, (t1_in 97 (by decide +kernel) rfl), Or.inl rfl, rfl, rfl, by decide +kernel⟩
theorem lkQ_RX7_41_7 : LkQ RX7 41 7 12 (.array .int) := ⟨RX7, TX7, 16, "UnlikeNeighbours$Shed", fc7, by decide, (t1_in 99 (by decide +kernel) rfl), Or.inl rfl, rfl, rfl, by decide +kernel⟩
theorem lkQ_RX7_44_7 : LkQ RX7 44 7 13 (.array .int) := ⟨RX7, TX7, 16, "UnlikeNeighbours$Shed", fc7, by decide, (t1_in 100 (by decide +kernel) rfl), Or.inl rfl, rfl, rfl, by decide +kernel⟩
theorem lkP_RX7_47_7 : LkP RX7 47 7 15 .int := ⟨RX7, TX7, 16, "UnlikeNeighbours$Shed", fc7, by decide, (t1_in 103 (by decide +kernel) rfl), Or.inl rfl, rfl, by decide +kernel⟩
theorem dX7_init_0 : decode cX7_init 0 = .ok (.aload_n 0, 1) := by decide +kernel
theorem dX7_init_1 : decode cX7_init 1 = .ok (.invokespecial 3, 3) := by decide +kernel
theorem dX7_init_4 : decode cX7_init 4 = .ok (.aload_n 0, 1) := by decide +kernel
theorem dX7_init_5 : decode cX7_init 5 = .ok (.bipush 9, 2) := by decide +kernel
theorem dX7_init_7 : decode cX7_init 7 = .ok (.newarray .int, 2) := by decide +kernel
theorem dX7_init_9 : decode cX7_init 9 = .ok (.putfield 9, 3) := by decide +kernel
theorem dX7_init_12 : decode cX7_init 12 = .ok (.aload_n 0, 1) := by decide +kernel
theorem dX7_init_13 : decode cX7_init 13 = .ok (.bipush 9, 2) := by decide +kernel
theorem dX7_init_15 : decode cX7_init 15 = .ok (.newarray .int, 2) := by decide +kernel
theorem dX7_init_17 : decode cX7_init 17 = .ok (.putfield 15, 3) := by decide +kernel
theorem dX7_init_20 : decode cX7_init 20 = .ok (.aload_n 0, 1) := by decide +kernel
theorem dX7_init_21 : decode cX7_init 21 = .ok (.bipush 9, 2) := by decide +kernel
theorem dX7_init_23 : decode cX7_init 23 = .ok (.newarray .int, 2) := by decide +kernel
theorem dX7_init_25 : decode cX7_init 25 = .ok (.putfield 18, 3) := by decide +kernel
theorem dX7_init_28 : decode cX7_init 28 = .ok (.aload_n 0, 1) := by decide +kernel
theorem dX7_init_29 : decode cX7_init 29 = .ok (.bipush 9, 2) := by decide +kernel
theorem dX7_init_31 : decode cX7_init 31 = .ok (.newarray .int, 2) := by decide +kernel
theorem dX7_init_33 : decode cX7_init 33 = .ok (.putfield 21, 3) := by decide +kernel
theorem dX7_init_36 : decode cX7_init 36 = .ok (.aload_n 0, 1) := by decide +kernel
theorem dX7_init_37 : decode cX7_init 37 = .ok (.bipush 9, 2) := by decide +kernel
theorem dX7_init_39 : decode cX7_init 39 = .ok (.newarray .int, 2) := by decide +kernel
theorem dX7_init_41 : decode cX7_init 41 = .ok (.putfield 24, 3) := by decide +kernel
theorem dX7_init_44 : decode cX7_init 44 = .ok (.aload_n 0, 1) := by decide +kernel
theorem dX7_init_45 : decode cX7_init 45 = .ok (.bipush 9, 2) := by decide +kernel
theorem dX7_init_47 : decode cX7_init 47 = .ok (.newarray .int, 2) := by decide +kernel
theorem dX7_init_49 : decode cX7_init 49 = .ok (.putfield 27, 3) := by decide +kernel
theorem dX7_init_52 : decode cX7_init 52 = .ok (.aload_n 0, 1) := by decide +kernel
theorem dX7_init_53 : decode cX7_init 53 = .ok (.iconst 1, 1) := by decide +kernel
theorem dX7_init_54 : decode cX7_init 54 = .ok (.putfield 30, 3) := by decide +kernel
theorem dX7_init_57 : decode cX7_init 57 = .ok (.aload_n 0, 1) := by decide +kernel
theorem dX7_init_58 : decode cX7_init 58 = .ok (.new 34, 3) := by decide +kernel
theorem dX7_init_61 : decode cX7_init 61 = .ok (.dup, 1) := by decide +kernel
theorem dX7_init_62 : decode cX7_init 62 = .ok (.invokespecial 36, 3) := by decide +kernel
theorem dX7_init_65 : decode cX7_init 65 = .ok (.putfield 37, 3) := by decide +kernel
theorem dX7_init_68 : decode cX7_init 68 = .ok (.aload_n 0, 1) := by decide +kernel
theorem dX7_init_69 : decode cX7_init 69 = .ok (.bipush 6, 2) := by decide +kernel
theorem dX7_init_71 : decode cX7_init 71 = .ok (.newarray .int, 2) := by decide +kernel
theorem dX7_init_73 : decode cX7_init 73 = .ok (.putfield 41, 3) := by decide +kernel
theorem dX7_init_76 : decode cX7_init 76 = .ok (.aload_n 0, 1) := by decide +kernel
theorem dX7_init_77 : decode cX7_init 77 = .ok (.bipush 6, 2) := by decide +kernel
theorem dX7_init_79 : decode cX7_init 79 = .ok (.newarray .int, 2) := by decide +kernel
theorem dX7_init_81 : decode cX7_init 81 = .ok (.putfield 44, 3) := by decide +kernel
theorem dX7_init_84 : decode cX7_init 84 = .ok (.aload_n 0, 1) := by decide +kernel
theorem dX7_init_85 : decode cX7_init 85 = .ok (.iconst 1, 1) := by decide +kernel
theorem dX7_init_86 : decode cX7_init 86 = .ok (.putfield 47, 3) := by decide +kernel
theorem dX7_init_89 : decode cX7_init 89 = .ok (.return_, 1) := by decide +kernel
def f_X7_init   (S : Sh) (R : Rw) (I : Iw) (a0 : Nat) : Option ((Sh × Rw × Iw)) := lt S.length (fun q1 => lt (S ++ [(20, 9)]) (fun S2 => lt (setA R q1 (fun _ => none)) (fun R3 => lt (setA I q1 (fun _ => 0)) (fun I4 => gp (sok S2 a0 7 16) (lt (up2 R3 a0 0 (some (.inl q1))) (fun R7 => lt S2.length (fun q8 => lt (S2 ++ [(20, 9)]) (fun S9 => lt (setA R7 q8 (fun _ => none)) (fun R10 => lt (setA I4 q8 (fun _ => 0)) (fun I11 => gp (sok S9 a0 7 16) (lt (up2 R10 a0 1 (some (.inl q8))) (fun R14 => lt S9.length (fun q15 => lt (S9 ++ [(20, 9)]) (fun S16 => lt (setA R14 q15 (fun _ => none)) (fun R17 => lt (setA I11 q15 (fun _ => 0)) (fun I18 => gp (sok S16 a0 7 16) (lt (up2 R17 a0 2 (some (.inl q15))) (fun R21 => lt S16.length (fun q22 => lt (S16 ++ [(20, 9)]) (fun S23 => lt (setA R21 q22 (fun _ => none)) (fun R24 => lt (setA I18 q22 (fun _ => 0)) (fun I25 => gp (sok S23 a0 7 16) (lt (up2 R24 a0 3 (some (.inl q22))) (fun R28 => lt S23.length (fun q29 => lt (S23 ++ [(20, 9)]) (fun S30 => lt (setA R28 q29 (fun _ => none)) (fun R31 => lt (setA I25 q29 (fun _ => 0)) (fun I32 => gp (sok S30 a0 7 16) (lt (up2 R31 a0 4 (some (.inl q29))) (fun R35 => lt S30.length (fun q36 => lt (S30 ++ [(20, 9)]) (fun S37 => lt (setA R35 q36 (fun _ => none)) (fun R38 => lt (setA I32 q36 (fun _ => 0)) (fun I39 => gp (sok S37 a0 7 16) (lt (up2 R38 a0 7 (some (.inl q36))) (fun R42 => lt (up2 I39 a0 9 (1 : Int32)) (fun I43 => lt S37.length (fun q44 => lt (S37 ++ [(5, 8)]) (fun S45 => lt (setA R42 q44 (fun _ => none)) (fun R46 => lt (setA I43 q44 (fun _ => 0)) (fun I47 => bd (f_X5_init S45 R46 I47 q44) (fun r49 => gp (sok r49.1 a0 7 16) (lt (up2 r49.2.1 a0 11 (some (.inl q44))) (fun R51 => lt r49.1.length (fun q52 => lt (r49.1 ++ [(20, 6)]) (fun S53 => lt (setA R51 q52 (fun _ => none)) (fun R54 => lt (setA r49.2.2 q52 (fun _ => 0)) (fun I55 => gp (sok S53 a0 7 16) (lt (up2 R54 a0 12 (some (.inl q52))) (fun R58 => lt S53.length (fun q59 => lt (S53 ++ [(20, 6)]) (fun S60 => lt (setA R58 q59 (fun _ => none)) (fun R61 => lt (setA I55 q59 (fun _ => 0)) (fun I62 => gp (sok S60 a0 7 16) (lt (up2 R61 a0 13 (some (.inl q59))) (fun R65 => lt (up2 I62 a0 15 (1 : Int32)) (fun I66 => some (S60, R65, I66))))))))))))))))))))))))))))))))))))))))))))))))))))))))))
set_option maxHeartbeats 4000000 in
theorem b_X7_init {E : Ev} {p : Program} {l : Launch} {e : Env} {s : State} {m : MethodId} {args : Array Value} {below : List Frame} {meth : Method} {c : Code} (C : Cx E RX7 cX7_init 1 p s m c) (hr : meth.sig.returnType = none) (hk : meth.locks = false) (hin : meth.name = "<init>") {r : (Sh × Rw × Iw)}  : ∀ (S : Sh) (R : Rw) (I : Iw) (a0 : Nat), f_X7_init    S R I a0 = some r → Wk E 1 p l e ({ frames := 2, cells := 15, slots := 482, locals := 40 } : Room) s m args below meth c 0 0 (MQ below (Qw E r.1 r.2.1 r.2.2 none) args s 15 482 (fun q => E.1 ≤ q)) 0 [(0, .ref (E.1 + a0))] [] S R I := by
  intro S R I a0 h
  rw [f_X7_init] at h
  refine k_aloadn (pc := 0) C dX7_init_0 (i := 0) rfl 0 rfl ?_
  refine k_objInit (pc := 1) C (t1_in 34 (by decide +kernel) rfl) (t1_in 27 (by decide +kernel) rfl) (t1_in 28 (by decide +kernel) rfl) (Nat.le_of_ble_eq_true rfl) (Nat.le_of_ble_eq_true rfl) (Nat.le_of_ble_eq_true rfl) dX7_init_1 ?_
  refine k_aloadn (pc := 4) C dX7_init_4 (i := 0) rfl 0 rfl ?_
  refine k_bipush (pc := 5) C (v := (9 : Int32)) dX7_init_5 (by decide) ?_
  obtain ⟨q1, eq1, h⟩ := lt_e h
  obtain ⟨S2, eS2, h⟩ := lt_e h
  obtain ⟨R3, eR3, h⟩ := lt_e h
  obtain ⟨I4, eI4, h⟩ := lt_e h
  refine k_newa (pc := 7) C (t := 20) (N := 9) rfl (by decide) (t1_in 68 (by decide +kernel) rfl) (by decide) (by decide) (by decide) (Nat.le_of_ble_eq_true rfl) (Nat.le_of_ble_eq_true rfl) dX7_init_7 ?_
  rw [← eq1, ← eS2, ← eR3, ← eI4]
  refine k_nf (cells2 := 1) (slots2 := 9) (st2 := [.ref (E.1 + q1), .ref (E.1 + a0)]) rfl rfl rfl ?_
  obtain ⟨hs60, h⟩ := gp_e h
  have hs6 := sok_e hs60
  obtain ⟨R7, eR7, h⟩ := lt_e h
  refine k_putFR (pc := 9) C hin lkQ_RX7_9_7 hs6 ir_7_0 (fun _ => ⟨rfl, rfl⟩) dX7_init_9 ?_
  rw [← eR7]
  refine k_aloadn (pc := 12) C dX7_init_12 (i := 0) rfl 0 rfl ?_
  refine k_bipush (pc := 13) C (v := (9 : Int32)) dX7_init_13 (by decide) ?_
  obtain ⟨q8, eq8, h⟩ := lt_e h
  obtain ⟨S9, eS9, h⟩ := lt_e h
  obtain ⟨R10, eR10, h⟩ := lt_e h
  obtain ⟨I11, eI11, h⟩ := lt_e h
  refine k_newa (pc := 15) C (t := 20) (N := 9) rfl (by decide) (t1_in 68 (by decide +kernel) rfl) (by decide) (by decide) (by decide) (Nat.le_of_ble_eq_true rfl) (Nat.le_of_ble_eq_true rfl) dX7_init_15 ?_
  rw [← eq8, ← eS9, ← eR10, ← eI11]
  refine k_nf (cells2 := 2) (slots2 := 18) (st2 := [.ref (E.1 + q8), .ref (E.1 + a0)]) rfl rfl rfl ?_
  obtain ⟨hs130, h⟩ := gp_e h
  have hs13 := sok_e hs130
  obtain ⟨R14, eR14, h⟩ := lt_e h
  refine k_putFR (pc := 17) C hin lkQ_RX7_15_7 hs13 ir_7_1 (fun _ => ⟨rfl, rfl⟩) dX7_init_17 ?_
  rw [← eR14]
  refine k_aloadn (pc := 20) C dX7_init_20 (i := 0) rfl 0 rfl ?_
  refine k_bipush (pc := 21) C (v := (9 : Int32)) dX7_init_21 (by decide) ?_
  obtain ⟨q15, eq15, h⟩ := lt_e h
  obtain ⟨S16, eS16, h⟩ := lt_e h
  obtain ⟨R17, eR17, h⟩ := lt_e h
  obtain ⟨I18, eI18, h⟩ := lt_e h
  refine k_newa (pc := 23) C (t := 20) (N := 9) rfl (by decide) (t1_in 68 (by decide +kernel) rfl) (by decide) (by decide) (by decide) (Nat.le_of_ble_eq_true rfl) (Nat.le_of_ble_eq_true rfl) dX7_init_23 ?_
  rw [← eq15, ← eS16, ← eR17, ← eI18]
  refine k_nf (cells2 := 3) (slots2 := 27) (st2 := [.ref (E.1 + q15), .ref (E.1 + a0)]) rfl rfl rfl ?_
  obtain ⟨hs200, h⟩ := gp_e h
  have hs20 := sok_e hs200
  obtain ⟨R21, eR21, h⟩ := lt_e h
  refine k_putFR (pc := 25) C hin lkQ_RX7_18_7 hs20 ir_7_2 (fun _ => ⟨rfl, rfl⟩) dX7_init_25 ?_
  rw [← eR21]
  refine k_aloadn (pc := 28) C dX7_init_28 (i := 0) rfl 0 rfl ?_
  refine k_bipush (pc := 29) C (v := (9 : Int32)) dX7_init_29 (by decide) ?_
  obtain ⟨q22, eq22, h⟩ := lt_e h
  obtain ⟨S23, eS23, h⟩ := lt_e h
  obtain ⟨R24, eR24, h⟩ := lt_e h
  obtain ⟨I25, eI25, h⟩ := lt_e h
  refine k_newa (pc := 31) C (t := 20) (N := 9) rfl (by decide) (t1_in 68 (by decide +kernel) rfl) (by decide) (by decide) (by decide) (Nat.le_of_ble_eq_true rfl) (Nat.le_of_ble_eq_true rfl) dX7_init_31 ?_
  rw [← eq22, ← eS23, ← eR24, ← eI25]
  refine k_nf (cells2 := 4) (slots2 := 36) (st2 := [.ref (E.1 + q22), .ref (E.1 + a0)]) rfl rfl rfl ?_
  obtain ⟨hs270, h⟩ := gp_e h
  have hs27 := sok_e hs270
  obtain ⟨R28, eR28, h⟩ := lt_e h
  refine k_putFR (pc := 33) C hin lkQ_RX7_21_7 hs27 ir_7_3 (fun _ => ⟨rfl, rfl⟩) dX7_init_33 ?_
  rw [← eR28]
  refine k_aloadn (pc := 36) C dX7_init_36 (i := 0) rfl 0 rfl ?_
  refine k_bipush (pc := 37) C (v := (9 : Int32)) dX7_init_37 (by decide) ?_
  obtain ⟨q29, eq29, h⟩ := lt_e h
  obtain ⟨S30, eS30, h⟩ := lt_e h
  obtain ⟨R31, eR31, h⟩ := lt_e h
  obtain ⟨I32, eI32, h⟩ := lt_e h
  refine k_newa (pc := 39) C (t := 20) (N := 9) rfl (by decide) (t1_in 68 (by decide +kernel) rfl) (by decide) (by decide) (by decide) (Nat.le_of_ble_eq_true rfl) (Nat.le_of_ble_eq_true rfl) dX7_init_39 ?_
  rw [← eq29, ← eS30, ← eR31, ← eI32]
  refine k_nf (cells2 := 5) (slots2 := 45) (st2 := [.ref (E.1 + q29), .ref (E.1 + a0)]) rfl rfl rfl ?_
  obtain ⟨hs340, h⟩ := gp_e h
  have hs34 := sok_e hs340
  obtain ⟨R35, eR35, h⟩ := lt_e h
  refine k_putFR (pc := 41) C hin lkQ_RX7_24_7 hs34 ir_7_4 (fun _ => ⟨rfl, rfl⟩) dX7_init_41 ?_
  rw [← eR35]
  refine k_aloadn (pc := 44) C dX7_init_44 (i := 0) rfl 0 rfl ?_
  refine k_bipush (pc := 45) C (v := (9 : Int32)) dX7_init_45 (by decide) ?_
  obtain ⟨q36, eq36, h⟩ := lt_e h
  obtain ⟨S37, eS37, h⟩ := lt_e h
  obtain ⟨R38, eR38, h⟩ := lt_e h
  obtain ⟨I39, eI39, h⟩ := lt_e h
  refine k_newa (pc := 47) C (t := 20) (N := 9) rfl (by decide) (t1_in 68 (by decide +kernel) rfl) (by decide) (by decide) (by decide) (Nat.le_of_ble_eq_true rfl) (Nat.le_of_ble_eq_true rfl) dX7_init_47 ?_
  rw [← eq36, ← eS37, ← eR38, ← eI39]
  refine k_nf (cells2 := 6) (slots2 := 54) (st2 := [.ref (E.1 + q36), .ref (E.1 + a0)]) rfl rfl rfl ?_
  obtain ⟨hs410, h⟩ := gp_e h
  have hs41 := sok_e hs410
  obtain ⟨R42, eR42, h⟩ := lt_e h
  refine k_putFR (pc := 49) C hin lkQ_RX7_27_7 hs41 ir_7_7 (fun _ => ⟨rfl, rfl⟩) dX7_init_49 ?_
  rw [← eR42]
  refine k_aloadn (pc := 52) C dX7_init_52 (i := 0) rfl 0 rfl ?_
  refine k_iconst (pc := 53) C (v := (1 : Int32)) dX7_init_53 (by decide) ?_
  obtain ⟨I43, eI43, h⟩ := lt_e h
  refine k_putI (pc := 54) C lkP_RX7_30_7 hs41 ir_7_9 dX7_init_54 ?_
  rw [← eI43]
  refine k_aloadn (pc := 57) C dX7_init_57 (i := 0) rfl 0 rfl ?_
  obtain ⟨q44, eq44, h⟩ := lt_e h
  obtain ⟨S45, eS45, h⟩ := lt_e h
  obtain ⟨R46, eR46, h⟩ := lt_e h
  obtain ⟨I47, eI47, h⟩ := lt_e h
  refine k_new (pc := 58) C lkN_RX7_34 (Nat.le_of_ble_eq_true rfl) (Nat.le_of_ble_eq_true rfl) dX7_init_58 ?_
  rw [← eq44, ← eS45, ← eR46, ← eI47]
  refine k_nf (cells2 := 7) (slots2 := 62) (st2 := [.ref (E.1 + q44), .ref (E.1 + a0)]) rfl rfl rfl ?_
  refine k_dup (pc := 61) C dX7_init_61 rfl ?_
  obtain ⟨r49, hr49, h⟩ := bd_e h
  refine k_IN (pc := 62) (st := [.ref (E.1 + q44), .ref (E.1 + a0)]) C (c_X5_init hr49) lkIN_RX7_36 rfl rfl (Nat.le_of_ble_eq_true rfl) (Nat.le_of_ble_eq_true rfl) (Nat.le_of_ble_eq_true rfl) (Nat.le_of_ble_eq_true rfl) (Nat.le_of_ble_eq_true rfl) dX7_init_62 ?_
  refine k_nf (cells2 := 13) (slots2 := 470) (st2 := [.ref (E.1 + q44), .ref (E.1 + a0)]) rfl rfl rfl ?_
  obtain ⟨hs500, h⟩ := gp_e h
  have hs50 := sok_e hs500
  obtain ⟨R51, eR51, h⟩ := lt_e h
  refine k_putFR (pc := 65) C hin lkQ_RX7_37_7 hs50 ir_7_11 (fun _ => ⟨rfl, rfl⟩) dX7_init_65 ?_
  rw [← eR51]
  refine k_aloadn (pc := 68) C dX7_init_68 (i := 0) rfl 0 rfl ?_
  refine k_bipush (pc := 69) C (v := (6 : Int32)) dX7_init_69 (by decide) ?_
  obtain ⟨q52, eq52, h⟩ := lt_e h
  obtain ⟨S53, eS53, h⟩ := lt_e h
  obtain ⟨R54, eR54, h⟩ := lt_e h
  obtain ⟨I55, eI55, h⟩ := lt_e h
  refine k_newa (pc := 71) C (t := 20) (N := 6) rfl (by decide) (t1_in 68 (by decide +kernel) rfl) (by decide) (by decide) (by decide) (Nat.le_of_ble_eq_true rfl) (Nat.le_of_ble_eq_true rfl) dX7_init_71 ?_
  rw [← eq52, ← eS53, ← eR54, ← eI55]
  refine k_nf (cells2 := 14) (slots2 := 476) (st2 := [.ref (E.1 + q52), .ref (E.1 + a0)]) rfl rfl rfl ?_
  obtain ⟨hs570, h⟩ := gp_e h
  have hs57 := sok_e hs570
  obtain ⟨R58, eR58, h⟩ := lt_e h
  refine k_putFR (pc := 73) C hin lkQ_RX7_41_7 hs57 ir_7_12 (fun _ => ⟨rfl, rfl⟩) dX7_init_73 ?_
  rw [← eR58]
  refine k_aloadn (pc := 76) C dX7_init_76 (i := 0) rfl 0 rfl ?_
  refine k_bipush (pc := 77) C (v := (6 : Int32)) dX7_init_77 (by decide) ?_
  obtain ⟨q59, eq59, h⟩ := lt_e h
  obtain ⟨S60, eS60, h⟩ := lt_e h
  obtain ⟨R61, eR61, h⟩ := lt_e h
  obtain ⟨I62, eI62, h⟩ := lt_e h
  refine k_newa (pc := 79) C (t := 20) (N := 6) rfl (by decide) (t1_in 68 (by decide +kernel) rfl) (by decide) (by decide) (by decide) (Nat.le_of_ble_eq_true rfl) (Nat.le_of_ble_eq_true rfl) dX7_init_79 ?_
  rw [← eq59, ← eS60, ← eR61, ← eI62]
  refine k_nf (cells2 := 15) (slots2 := 482) (st2 := [.ref (E.1 + q59), .ref (E.1 + a0)]) rfl rfl rfl ?_
  obtain ⟨hs640, h⟩ := gp_e h
  have hs64 := sok_e hs640
  obtain ⟨R65, eR65, h⟩ := lt_e h
  refine k_putFR (pc := 81) C hin lkQ_RX7_44_7 hs64 ir_7_13 (fun _ => ⟨rfl, rfl⟩) dX7_init_81 ?_
  rw [← eR65]
  refine k_aloadn (pc := 84) C dX7_init_84 (i := 0) rfl 0 rfl ?_
  refine k_iconst (pc := 85) C (v := (1 : Int32)) dX7_init_85 (by decide) ?_
  obtain ⟨I66, eI66, h⟩ := lt_e h
  refine k_putI (pc := 86) C lkP_RX7_47_7 hs64 ir_7_15 dX7_init_86 ?_
  rw [← eI66]
  have h := Option.some.inj h
  subst h
  exact k_vret (pc := 89) C hr hk dX7_init_89
theorem c_X7_init {E : Ev} {l : Launch} {S : Sh} {R : Rw} {I : Iw} {a0 : Nat} {r : (Sh × Rw × Iw)} (h : f_X7_init S R I a0 = some r) : Mt E l yX7_init cX7_init 1 none 2 40 [.ref (E.1 + a0)] S R I r.1 r.2.1 r.2.2 none 15 482 := mt_of (by decide) (Nat.le_of_ble_eq_true rfl) (fun p e s m args below meth c C hr hk hn => b_X7_init C hr hk hn _ _ _ _ h)
theorem lkF_RX7_30_7 : LkF RX7 30 7 9 := ⟨RX7, TX7, 16, "UnlikeNeighbours$Shed", fc7, by decide, (t1_in 91 (by decide +kernel) rfl), Or.inl rfl⟩
theorem dX7_isNear_0 : decode cX7_isNear 0 = .ok (.iload_n 1, 1) := by decide +kernel
theorem dX7_isNear_1 : decode cX7_isNear 1 = .ok (.iload_n 2, 1) := by decide +kernel
theorem dX7_isNear_2 : decode cX7_isNear 2 = .ok (.isub, 1) := by decide +kernel
theorem dX7_isNear_3 : decode cX7_isNear 3 = .ok (.invokestatic 76, 3) := by decide +kernel
theorem dX7_isNear_6 : decode cX7_isNear 6 = .ok (.aload_n 0, 1) := by decide +kernel
theorem dX7_isNear_7 : decode cX7_isNear 7 = .ok (.getfield 30, 3) := by decide +kernel
theorem dX7_isNear_10 : decode cX7_isNear 10 = .ok (.if_icmp .gt 7, 3) := by decide +kernel
theorem dX7_isNear_13 : decode cX7_isNear 13 = .ok (.iconst 1, 1) := by decide +kernel
theorem dX7_isNear_14 : decode cX7_isNear 14 = .ok (.goto 4, 3) := by decide +kernel
theorem dX7_isNear_17 : decode cX7_isNear 17 = .ok (.iconst 0, 1) := by decide +kernel
theorem dX7_isNear_18 : decode cX7_isNear 18 = .ok (.ireturn, 1) := by decide +kernel
def f_X7_isNear (S : Sh) (R : Rw) (I : Iw)  (a0 : Nat) (x1 : Int32) (x2 : Int32) : Option (Int32) := gp (sok S a0 7 16) ((if (I a0 9) < (jabs (x1 - x2)) then some (0 : Int32) else some (1 : Int32)))
set_option maxHeartbeats 4000000 in
theorem b_X7_isNear {E : Ev} {p : Program} {l : Launch} {e : Env} {s : State} {m : MethodId} {args : Array Value} {below : List Frame} {meth : Method} {c : Code} (C : Cx E RX7 cX7_isNear 3 p s m c) (hr : meth.sig.returnType = (some .boolean)) (hk : meth.locks = false) {S : Sh} {R : Rw} {I : Iw} {r : Int32}  : ∀ (a0 : Nat) (x1 : Int32) (x2 : Int32), f_X7_isNear S R I   a0 x1 x2 = some r → Wk E 3 p l e ({ frames := 1, cells := 0, slots := 0, locals := 21 } : Room) s m args below meth c 0 0 (MQ below (Qw E S R I (some (.int r))) args s 0 0 (fun q => E.1 ≤ q)) 0 [(0, .ref (E.1 + a0)), (1, .int x1), (2, .int x2)] [] S R I := by
  intro a0 x1 x2 h
  rw [f_X7_isNear] at h
  refine k_iloadn (pc := 0) C dX7_isNear_0 (i := 1) rfl 1 rfl ?_
  refine k_iloadn (pc := 1) C dX7_isNear_1 (i := 2) rfl 2 rfl ?_
  refine k_isub (pc := 2) C dX7_isNear_2 ?_
  refine k_mabs (pc := 3) (st := []) C (t2_in 53 (by decide +kernel) rfl) (Nat.le_of_ble_eq_true rfl) (Nat.le_of_ble_eq_true rfl) (Nat.le_of_ble_eq_true rfl) (Nat.le_of_ble_eq_true rfl) (Nat.le_of_ble_eq_true rfl) dX7_isNear_3 ?_
  refine k_aloadn (pc := 6) C dX7_isNear_6 (i := 0) rfl 0 rfl ?_
  obtain ⟨hs10, h⟩ := gp_e h
  have hs1 := sok_e hs10
  refine k_getI (pc := 7) C lkF_RX7_30_7 hs1 ir_7_9 dX7_isNear_7 ?_
  refine k_icmp_gt (pc := 10) C dX7_isNear_10 (tgt := 17) (by decide) (fun hc2 => ?_) (fun hc2 => ?_)
  · rw [if_pos hc2] at h
    refine k_iconst (pc := 17) C (v := (0 : Int32)) dX7_isNear_17 (by decide) ?_
    have h := Option.some.inj h
    subst h
    exact k_zret (pc := 18) C hr hk (Or.inl rfl) dX7_isNear_18
  · rw [if_neg hc2] at h
    refine k_iconst (pc := 13) C (v := (1 : Int32)) dX7_isNear_13 (by decide) ?_
    refine k_goto (pc := 14) C dX7_isNear_14 (tgt := 18) (by decide) ?_
    have h := Option.some.inj h
    subst h
    exact k_zret (pc := 18) C hr hk (Or.inr rfl) dX7_isNear_18
theorem c_X7_isNear {E : Ev} {l : Launch} {S : Sh} {R : Rw} {I : Iw} {a0 : Nat} {x1 : Int32} {x2 : Int32} {r : Int32} (h : f_X7_isNear S R I a0 x1 x2 = some r) : Mt E l yX7_isNear cX7_isNear 3 (some .boolean) 1 21 [.ref (E.1 + a0), .int x1, .int x2] S R I S R I (some (.int r)) 0 0 := mt_of (by decide) (Nat.le_of_ble_eq_true rfl) (fun p e s m args below meth c C hr hk hn => b_X7_isNear C hr hk _ _ _ h)
theorem lkV_RX7_70 : LkV RX7 70 RX7 yX7_isNear cX7_isNear 3 (some .boolean) 2 := ⟨(t2_in 49 (by decide +kernel) rfl), (t2_in 51 (by decide +kernel) rfl), (t0_in 1 (by decide +kernel) rfl), (t2_in 52 (by decide +kernel) rfl), (t1_in 2 (by decide +kernel) rfl), by decide, by decide +kernel⟩
theorem dX7_standsNear_0 : decode cX7_standsNear 0 = .ok (.aload_n 0, 1) := by decide +kernel
theorem dX7_standsNear_1 : decode cX7_standsNear 1 = .ok (.getfield 9, 3) := by decide +kernel
theorem dX7_standsNear_4 : decode cX7_standsNear 4 = .ok (.iload_n 1, 1) := by decide +kernel
theorem dX7_standsNear_5 : decode cX7_standsNear 5 = .ok (.iaload, 1) := by decide +kernel
theorem dX7_standsNear_6 : decode cX7_standsNear 6 = .ok (.iconst 1, 1) := by decide +kernel
theorem dX7_standsNear_7 : decode cX7_standsNear 7 = .ok (.if_icmp .eq 5, 3) := by decide +kernel
theorem dX7_standsNear_10 : decode cX7_standsNear 10 = .ok (.iconst 0, 1) := by decide +kernel
theorem dX7_standsNear_11 : decode cX7_standsNear 11 = .ok (.ireturn, 1) := by decide +kernel
theorem dX7_standsNear_12 : decode cX7_standsNear 12 = .ok (.iconst 0, 1) := by decide +kernel
theorem dX7_standsNear_13 : decode cX7_standsNear 13 = .ok (.istore_n 3, 1) := by decide +kernel
theorem dX7_standsNear_14 : decode cX7_standsNear 14 = .ok (.iload_n 3, 1) := by decide +kernel
theorem dX7_standsNear_15 : decode cX7_standsNear 15 = .ok (.aload_n 0, 1) := by decide +kernel
theorem dX7_standsNear_16 : decode cX7_standsNear 16 = .ok (.getfield 50, 3) := by decide +kernel
theorem dX7_standsNear_19 : decode cX7_standsNear 19 = .ok (.if_icmp .ge 45, 3) := by decide +kernel
theorem dX7_standsNear_22 : decode cX7_standsNear 22 = .ok (.iload_n 3, 1) := by decide +kernel
theorem dX7_standsNear_23 : decode cX7_standsNear 23 = .ok (.iload_n 1, 1) := by decide +kernel
theorem dX7_standsNear_24 : decode cX7_standsNear 24 = .ok (.if_icmp .eq 34, 3) := by decide +kernel
theorem dX7_standsNear_27 : decode cX7_standsNear 27 = .ok (.iload_n 3, 1) := by decide +kernel
theorem dX7_standsNear_28 : decode cX7_standsNear 28 = .ok (.iload_n 2, 1) := by decide +kernel
theorem dX7_standsNear_29 : decode cX7_standsNear 29 = .ok (.if_icmp .eq 29, 3) := by decide +kernel
theorem dX7_standsNear_32 : decode cX7_standsNear 32 = .ok (.aload_n 0, 1) := by decide +kernel
theorem dX7_standsNear_33 : decode cX7_standsNear 33 = .ok (.getfield 18, 3) := by decide +kernel
theorem dX7_standsNear_36 : decode cX7_standsNear 36 = .ok (.iload_n 3, 1) := by decide +kernel
theorem dX7_standsNear_37 : decode cX7_standsNear 37 = .ok (.iaload, 1) := by decide +kernel
theorem dX7_standsNear_38 : decode cX7_standsNear 38 = .ok (.aload_n 0, 1) := by decide +kernel
theorem dX7_standsNear_39 : decode cX7_standsNear 39 = .ok (.getfield 18, 3) := by decide +kernel
theorem dX7_standsNear_42 : decode cX7_standsNear 42 = .ok (.iload_n 1, 1) := by decide +kernel
theorem dX7_standsNear_43 : decode cX7_standsNear 43 = .ok (.iaload, 1) := by decide +kernel
theorem dX7_standsNear_44 : decode cX7_standsNear 44 = .ok (.if_icmp .ne 14, 3) := by decide +kernel
theorem dX7_standsNear_47 : decode cX7_standsNear 47 = .ok (.aload_n 0, 1) := by decide +kernel
theorem dX7_standsNear_48 : decode cX7_standsNear 48 = .ok (.iload_n 3, 1) := by decide +kernel
theorem dX7_standsNear_49 : decode cX7_standsNear 49 = .ok (.iload_n 2, 1) := by decide +kernel
theorem dX7_standsNear_50 : decode cX7_standsNear 50 = .ok (.invokevirtual 70, 3) := by decide +kernel
theorem dX7_standsNear_53 : decode cX7_standsNear 53 = .ok (.ifCond .eq 5, 3) := by decide +kernel
theorem dX7_standsNear_56 : decode cX7_standsNear 56 = .ok (.iconst 1, 1) := by decide +kernel
theorem dX7_standsNear_57 : decode cX7_standsNear 57 = .ok (.ireturn, 1) := by decide +kernel
theorem dX7_standsNear_58 : decode cX7_standsNear 58 = .ok (.iinc 3 1, 3) := by decide +kernel
theorem dX7_standsNear_61 : decode cX7_standsNear 61 = .ok (.goto (-47), 3) := by decide +kernel
theorem dX7_standsNear_64 : decode cX7_standsNear 64 = .ok (.iconst 0, 1) := by decide +kernel
theorem dX7_standsNear_65 : decode cX7_standsNear 65 = .ok (.ireturn, 1) := by decide +kernel
def f_X7_standsNear_58 (S : Sh) (R : Rw) (I : Iw) (ko14 : Nat → Int32 → Int32 → Int32 → Option (Int32)) (a0 : Nat) (x1 : Int32) (x2 : Int32) (x3 : Int32) : Option (Int32) := ko14 a0 x1 x2 (x3 + (1 : Int32))
set_option maxHeartbeats 4000000 in
theorem b_X7_standsNear_58 {E : Ev} {p : Program} {l : Launch} {e : Env} {s : State} {m : MethodId} {args : Array Value} {below : List Frame} {meth : Method} {c : Code} (C : Cx E RX7 cX7_standsNear 4 p s m c) (hr : meth.sig.returnType = (some .boolean)) (hk : meth.locks = false) {S : Sh} {R : Rw} {I : Iw} {r : Int32}  {ko14 : Nat → Int32 → Int32 → Int32 → Option (Int32)} (hko14 : ∀ (a0 : Nat) (x1 : Int32) (x2 : Int32) (x3 : Int32), ko14 a0 x1 x2 x3 = some r → Wk E 4 p l e ({ frames := 2, cells := 0, slots := 0, locals := 43 } : Room) s m args below meth c 0 0 (MQ below (Qw E S R I (some (.int r))) args s 0 0 (fun q => E.1 ≤ q)) 14 [(0, .ref (E.1 + a0)), (1, .int x1), (2, .int x2), (3, .int x3)] [] S R I) : ∀ (a0 : Nat) (x1 : Int32) (x2 : Int32) (x3 : Int32), f_X7_standsNear_58 S R I ko14  a0 x1 x2 x3 = some r → Wk E 4 p l e ({ frames := 2, cells := 0, slots := 0, locals := 43 } : Room) s m args below meth c 0 0 (MQ below (Qw E S R I (some (.int r))) args s 0 0 (fun q => E.1 ≤ q)) 58 [(0, .ref (E.1 + a0)), (1, .int x1), (2, .int x2), (3, .int x3)] [] S R I := by
  intro a0 x1 x2 x3 h
  rw [f_X7_standsNear_58] at h
  refine k_iinc (pc := 58) C dX7_standsNear_58 3 rfl (v := x3 + (1 : Int32)) (by rfl) (by decide) (L2 := [(0, .ref (E.1 + a0)), (1, .int x1), (2, .int x2), (3, .int (x3 + (1 : Int32)))]) rfl ?_
  refine k_goto (pc := 61) C dX7_standsNear_61 (tgt := 14) (by decide) ?_
  exact hko14 _ _ _ _ h
def f_X7_standsNear_14 (S : Sh) (R : Rw) (I : Iw)  : Nat → Nat → Int32 → Int32 → Int32 → Option (Int32)
  | 0, _, _, _, _ => none
  | n + 1, a0, x1, x2, x3 => gp (sok S a0 7 16) ((if (I a0 5) ≤ x3 then some (0 : Int32) else (if x3 = x1 then f_X7_standsNear_58 S R I (f_X7_standsNear_14 S R I  n) a0 x1 x2 x3 else (if x3 = x2 then f_X7_standsNear_58 S R I (f_X7_standsNear_14 S R I  n) a0 x1 x2 x3 else rl (R a0 2) (fun b9 => gp (aok S 20 b9 x3) (rl (R a0 2) (fun b11 => gp (aok S 20 b11 x1) ((if (I b9 x3.toNatClampNeg) = (I b11 x1.toNatClampNeg) then bd (f_X7_isNear S R I a0 x3 x2) (fun r14 => (if r14 = 0 then f_X7_standsNear_58 S R I (f_X7_standsNear_14 S R I  n) a0 x1 x2 x3 else some (1 : Int32))) else f_X7_standsNear_58 S R I (f_X7_standsNear_14 S R I  n) a0 x1 x2 x3)))))))))
set_option maxHeartbeats 4000000 in
theorem b_X7_standsNear_14 {E : Ev} {p : Program} {l : Launch} {e : Env} {s : State} {m : MethodId} {args : Array Value} {below : List Frame} {meth : Method} {c : Code} (C : Cx E RX7 cX7_standsNear 4 p s m c) (hr : meth.sig.returnType = (some .boolean)) (hk : meth.locks = false) {S : Sh} {R : Rw} {I : Iw} {r : Int32}  : ∀ (n : Nat) (a0 : Nat) (x1 : Int32) (x2 : Int32) (x3 : Int32), f_X7_standsNear_14 S R I  n a0 x1 x2 x3 = some r → Wk E 4 p l e ({ frames := 2, cells := 0, slots := 0, locals := 43 } : Room) s m args below meth c 0 0 (MQ below (Qw E S R I (some (.int r))) args s 0 0 (fun q => E.1 ≤ q)) 14 [(0, .ref (E.1 + a0)), (1, .int x1), (2, .int x2), (3, .int x3)] [] S R I := by
  intro n
  induction n with
  | zero =>
    intro a0 x1 x2 x3 h
    rw [f_X7_standsNear_14] at h
    cases h
  | succ n ih =>
    intro a0 x1 x2 x3 h
    rw [f_X7_standsNear_14] at h
    refine k_iloadn (pc := 14) C dX7_standsNear_14 (i := 3) rfl 3 rfl ?_
    refine k_aloadn (pc := 15) C dX7_standsNear_15 (i := 0) rfl 0 rfl ?_
    obtain ⟨hs50, h⟩ := gp_e h
    have hs5 := sok_e hs50
    refine k_getI (pc := 16) C lkF_RX7_50_7 hs5 ir_7_5 dX7_standsNear_16 ?_
    refine k_icmp_ge (pc := 19) C dX7_standsNear_19 (tgt := 64) (by decide) (fun hc6 => ?_) (fun hc6 => ?_)
    · rw [if_pos hc6] at h
      refine k_iconst (pc := 64) C (v := (0 : Int32)) dX7_standsNear_64 (by decide) ?_
      have h := Option.some.inj h
      subst h
      exact k_zret (pc := 65) C hr hk (Or.inl rfl) dX7_standsNear_65
    · rw [if_neg hc6] at h
      refine k_iloadn (pc := 22) C dX7_standsNear_22 (i := 3) rfl 3 rfl ?_
      refine k_iloadn (pc := 23) C dX7_standsNear_23 (i := 1) rfl 1 rfl ?_
      refine k_icmp_eq (pc := 24) C dX7_standsNear_24 (tgt := 58) (by decide) (fun hc7 => ?_) (fun hc7 => ?_)
      · rw [if_pos hc7] at h
        exact b_X7_standsNear_58 C hr hk ih _ _ _ _ h
      · rw [if_neg hc7] at h
        refine k_iloadn (pc := 27) C dX7_standsNear_27 (i := 3) rfl 3 rfl ?_
        refine k_iloadn (pc := 28) C dX7_standsNear_28 (i := 2) rfl 2 rfl ?_
        refine k_icmp_eq (pc := 29) C dX7_standsNear_29 (tgt := 58) (by decide) (fun hc8 => ?_) (fun hc8 => ?_)
        · rw [if_pos hc8] at h
          exact b_X7_standsNear_58 C hr hk ih _ _ _ _ h
        · rw [if_neg hc8] at h
          refine k_aloadn (pc := 32) C dX7_standsNear_32 (i := 0) rfl 0 rfl ?_
          obtain ⟨b9, hb9, h⟩ := rl_e h
          refine k_getR (pc := 33) C lkF_RX7_18_7 hs5 ir_7_2 hb9 dX7_standsNear_33 ?_
          refine k_iloadn (pc := 36) C dX7_standsNear_36 (i := 3) rfl 3 rfl ?_
          obtain ⟨ha10, h⟩ := gp_e h
          refine k_iald (pc := 37) C ha10 dX7_standsNear_37 ?_
          refine k_aloadn (pc := 38) C dX7_standsNear_38 (i := 0) rfl 0 rfl ?_
          obtain ⟨b11, hb11, h⟩ := rl_e h
          refine k_getR (pc := 39) C lkF_RX7_18_7 hs5 ir_7_2 hb11 dX7_standsNear_39 ?_
          refine k_iloadn (pc := 42) C dX7_standsNear_42 (i := 1) rfl 1 rfl ?_
          obtain ⟨ha12, h⟩ := gp_e h
          refine k_iald (pc := 43) C ha12 dX7_standsNear_43 ?_
          refine k_icmp_ne (pc := 44) C dX7_standsNear_44 (tgt := 58) (by decide) (fun hc13 => ?_) (fun hc13 => ?_)
          · rw [if_neg hc13] at h
            exact b_X7_standsNear_58 C hr hk ih _ _ _ _ h
          · rw [if_pos hc13] at h
            refine k_aloadn (pc := 47) C dX7_standsNear_47 (i := 0) rfl 0 rfl ?_
            refine k_iloadn (pc := 48) C dX7_standsNear_48 (i := 3) rfl 3 rfl ?_
            refine k_iloadn (pc := 49) C dX7_standsNear_49 (i := 2) rfl 2 rfl ?_
            obtain ⟨r14, hr14, h⟩ := bd_e h
            refine k_V (pc := 50) (st := []) C (c_X7_isNear hr14) lkV_RX7_70 hs5 rfl rfl rfl (Nat.le_of_ble_eq_true rfl) (Nat.le_of_ble_eq_true rfl) (Nat.le_of_ble_eq_true rfl) (Nat.le_of_ble_eq_true rfl) (Nat.le_of_ble_eq_true rfl) dX7_standsNear_50 ?_
            refine k_nf (cells2 := 0) (slots2 := 0) (st2 := [.int r14]) rfl rfl rfl ?_
            refine k_if_eq (pc := 53) C dX7_standsNear_53 (tgt := 58) (by decide) (fun hc15 => ?_) (fun hc15 => ?_)
            · rw [if_pos hc15] at h
              exact b_X7_standsNear_58 C hr hk ih _ _ _ _ h
            · rw [if_neg hc15] at h
              refine k_iconst (pc := 56) C (v := (1 : Int32)) dX7_standsNear_56 (by decide) ?_
              have h := Option.some.inj h
              subst h
              exact k_zret (pc := 57) C hr hk (Or.inr rfl) dX7_standsNear_57
def f_X7_standsNear (S : Sh) (R : Rw) (I : Iw)  (a0 : Nat) (x1 : Int32) (x2 : Int32) : Option (Int32) := gp (sok S a0 7 16) (rl (R a0 0) (fun b2 => gp (aok S 20 b2 x1) ((if (I b2 x1.toNatClampNeg) = (1 : Int32) then f_X7_standsNear_14 S R I  512 a0 x1 x2 (0 : Int32) else some (0 : Int32)))))
set_option maxHeartbeats 4000000 in
theorem b_X7_standsNear {E : Ev} {p : Program} {l : Launch} {e : Env} {s : State} {m : MethodId} {args : Array Value} {below : List Frame} {meth : Method} {c : Code} (C : Cx E RX7 cX7_standsNear 4 p s m c) (hr : meth.sig.returnType = (some .boolean)) (hk : meth.locks = false) {S : Sh} {R : Rw} {I : Iw} {r : Int32}  : ∀ (a0 : Nat) (x1 : Int32) (x2 : Int32), f_X7_standsNear S R I   a0 x1 x2 = some r → Wk E 4 p l e ({ frames := 2, cells := 0, slots := 0, locals := 43 } : Room) s m args below meth c 0 0 (MQ below (Qw E S R I (some (.int r))) args s 0 0 (fun q => E.1 ≤ q)) 0 [(0, .ref (E.1 + a0)), (1, .int x1), (2, .int x2)] [] S R I := by
  intro a0 x1 x2 h
  rw [f_X7_standsNear] at h
  refine k_aloadn (pc := 0) C dX7_standsNear_0 (i := 0) rfl 0 rfl ?_
  obtain ⟨hs10, h⟩ := gp_e h
  have hs1 := sok_e hs10
  obtain ⟨b2, hb2, h⟩ := rl_e h
  refine k_getR (pc := 1) C lkF_RX7_9_7 hs1 ir_7_0 hb2 dX7_standsNear_1 ?_
  refine k_iloadn (pc := 4) C dX7_standsNear_4 (i := 1) rfl 1 rfl ?_
  obtain ⟨ha3, h⟩ := gp_e h
  refine k_iald (pc := 5) C ha3 dX7_standsNear_5 ?_
  refine k_iconst (pc := 6) C (v := (1 : Int32)) dX7_standsNear_6 (by decide) ?_
  refine k_icmp_eq (pc := 7) C dX7_standsNear_7 (tgt := 12) (by decide) (fun hc4 => ?_) (fun hc4 => ?_)
  · rw [if_pos hc4] at h
    refine k_iconst (pc := 12) C (v := (0 : Int32)) dX7_standsNear_12 (by decide) ?_
    refine k_istoren (pc := 13) C dX7_standsNear_13 (i := 3) rfl (by decide) (L2 := [(0, .ref (E.1 + a0)), (1, .int x1), (2, .int x2), (3, .int (0 : Int32))]) rfl ?_
    exact b_X7_standsNear_14 C hr hk  _ _ _ _ _ h
  · rw [if_neg hc4] at h
    refine k_iconst (pc := 10) C (v := (0 : Int32)) dX7_standsNear_10 (by decide) ?_
    have h := Option.some.inj h
    subst h
    exact k_zret (pc := 11) C hr hk (Or.inl rfl) dX7_standsNear_11
theorem c_X7_standsNear {E : Ev} {l : Launch} {S : Sh} {R : Rw} {I : Iw} {a0 : Nat} {x1 : Int32} {x2 : Int32} {r : Int32} (h : f_X7_standsNear S R I a0 x1 x2 = some r) : Mt E l yX7_standsNear cX7_standsNear 4 (some .boolean) 2 43 [.ref (E.1 + a0), .int x1, .int x2] S R I S R I (some (.int r)) 0 0 := mt_of (by decide) (Nat.le_of_ble_eq_true rfl) (fun p e s m args below meth c C hr hk hn => b_X7_standsNear C hr hk _ _ _ h)
theorem lkV_RX7_73 : LkV RX7 73 RX7 yX7_standsNear cX7_standsNear 4 (some .boolean) 2 := ⟨(t2_in 56 (by decide +kernel) rfl), (t2_in 58 (by decide +kernel) rfl), (t0_in 2 (by decide +kernel) rfl), (t2_in 59 (by decide +kernel) rfl), (t1_in 2 (by decide +kernel) rfl), by decide, by decide +kernel⟩
theorem dX7_cameBeside_0 : decode cX7_cameBeside 0 = .ok (.iload_n 1, 1) := by decide +kernel
theorem dX7_cameBeside_1 : decode cX7_cameBeside 1 = .ok (.iload_n 2, 1) := by decide +kernel
theorem dX7_cameBeside_2 : decode cX7_cameBeside 2 = .ok (.if_icmp .eq 23, 3) := by decide +kernel
theorem dX7_cameBeside_5 : decode cX7_cameBeside 5 = .ok (.aload_n 0, 1) := by decide +kernel
theorem dX7_cameBeside_6 : decode cX7_cameBeside 6 = .ok (.getfield 9, 3) := by decide +kernel
theorem dX7_cameBeside_9 : decode cX7_cameBeside 9 = .ok (.iload_n 1, 1) := by decide +kernel
theorem dX7_cameBeside_10 : decode cX7_cameBeside 10 = .ok (.iaload, 1) := by decide +kernel
theorem dX7_cameBeside_11 : decode cX7_cameBeside 11 = .ok (.iconst 3, 1) := by decide +kernel
theorem dX7_cameBeside_12 : decode cX7_cameBeside 12 = .ok (.if_icmp .eq 13, 3) := by decide +kernel
theorem dX7_cameBeside_15 : decode cX7_cameBeside 15 = .ok (.aload_n 0, 1) := by decide +kernel
theorem dX7_cameBeside_16 : decode cX7_cameBeside 16 = .ok (.getfield 9, 3) := by decide +kernel
theorem dX7_cameBeside_19 : decode cX7_cameBeside 19 = .ok (.iload_n 2, 1) := by decide +kernel
theorem dX7_cameBeside_20 : decode cX7_cameBeside 20 = .ok (.iaload, 1) := by decide +kernel
theorem dX7_cameBeside_21 : decode cX7_cameBeside 21 = .ok (.iconst 3, 1) := by decide +kernel
theorem dX7_cameBeside_22 : decode cX7_cameBeside 22 = .ok (.if_icmp .ne 5, 3) := by decide +kernel
theorem dX7_cameBeside_25 : decode cX7_cameBeside 25 = .ok (.iconst 0, 1) := by decide +kernel
theorem dX7_cameBeside_26 : decode cX7_cameBeside 26 = .ok (.ireturn, 1) := by decide +kernel
theorem dX7_cameBeside_27 : decode cX7_cameBeside 27 = .ok (.aload_n 0, 1) := by decide +kernel
theorem dX7_cameBeside_28 : decode cX7_cameBeside 28 = .ok (.iload_n 1, 1) := by decide +kernel
theorem dX7_cameBeside_29 : decode cX7_cameBeside 29 = .ok (.iload_n 2, 1) := by decide +kernel
theorem dX7_cameBeside_30 : decode cX7_cameBeside 30 = .ok (.invokevirtual 70, 3) := by decide +kernel
theorem dX7_cameBeside_33 : decode cX7_cameBeside 33 = .ok (.ifCond .ne 21, 3) := by decide +kernel
theorem dX7_cameBeside_36 : decode cX7_cameBeside 36 = .ok (.aload_n 0, 1) := by decide +kernel
theorem dX7_cameBeside_37 : decode cX7_cameBeside 37 = .ok (.iload_n 1, 1) := by decide +kernel
theorem dX7_cameBeside_38 : decode cX7_cameBeside 38 = .ok (.iload_n 2, 1) := by decide +kernel
theorem dX7_cameBeside_39 : decode cX7_cameBeside 39 = .ok (.invokevirtual 73, 3) := by decide +kernel
theorem dX7_cameBeside_42 : decode cX7_cameBeside 42 = .ok (.ifCond .ne 12, 3) := by decide +kernel
theorem dX7_cameBeside_45 : decode cX7_cameBeside 45 = .ok (.aload_n 0, 1) := by decide +kernel
theorem dX7_cameBeside_46 : decode cX7_cameBeside 46 = .ok (.iload_n 2, 1) := by decide +kernel
theorem dX7_cameBeside_47 : decode cX7_cameBeside 47 = .ok (.iload_n 1, 1) := by decide +kernel
theorem dX7_cameBeside_48 : decode cX7_cameBeside 48 = .ok (.invokevirtual 73, 3) := by decide +kernel
theorem dX7_cameBeside_51 : decode cX7_cameBeside 51 = .ok (.ifCond .eq 7, 3) := by decide +kernel
theorem dX7_cameBeside_54 : decode cX7_cameBeside 54 = .ok (.iconst 1, 1) := by decide +kernel
theorem dX7_cameBeside_55 : decode cX7_cameBeside 55 = .ok (.goto 4, 3) := by decide +kernel
theorem dX7_cameBeside_58 : decode cX7_cameBeside 58 = .ok (.iconst 0, 1) := by decide +kernel
theorem dX7_cameBeside_59 : decode cX7_cameBeside 59 = .ok (.ireturn, 1) := by decide +kernel
def f_X7_cameBeside_54 (S : Sh) (R : Rw) (I : Iw)   : Option (Int32) := some (1 : Int32)
set_option maxHeartbeats 4000000 in
theorem b_X7_cameBeside_54 {E : Ev} {p : Program} {l : Launch} {e : Env} {s : State} {m : MethodId} {args : Array Value} {below : List Frame} {meth : Method} {c : Code} (C : Cx E RX7 cX7_cameBeside 3 p s m c) (hr : meth.sig.returnType = (some .boolean)) (hk : meth.locks = false) {S : Sh} {R : Rw} {I : Iw} {r : Int32}  : f_X7_cameBeside_54 S R I    = some r → Wk E 3 p l e ({ frames := 3, cells := 0, slots := 0, locals := 66 } : Room) s m args below meth c 0 0 (MQ below (Qw E S R I (some (.int r))) args s 0 0 (fun q => E.1 ≤ q)) 54 [] [] S R I := by
  intro  h
  rw [f_X7_cameBeside_54] at h
  refine k_iconst (pc := 54) C (v := (1 : Int32)) dX7_cameBeside_54 (by decide) ?_
  refine k_goto (pc := 55) C dX7_cameBeside_55 (tgt := 59) (by decide) ?_
  have h := Option.some.inj h
  subst h
  exact k_zret (pc := 59) C hr hk (Or.inr rfl) dX7_cameBeside_59
def f_X7_cameBeside (S : Sh) (R : Rw) (I : Iw)  (a0 : Nat) (x1 : Int32) (x2 : Int32) : Option (Int32) := (if x1 = x2 then some (0 : Int32) else gp (sok S a0 7 16) (rl (R a0 0) (fun b3 => gp (aok S 20 b3 x1) ((if (I b3 x1.toNatClampNeg) = (3 : Int32) then some (0 : Int32) else rl (R a0 0) (fun b6 => gp (aok S 20 b6 x2) ((if (I b6 x2.toNatClampNeg) = (3 : Int32) then some (0 : Int32) else bd (f_X7_isNear S R I a0 x1 x2) (fun r9 => (if r9 = 0 then bd (f_X7_standsNear S R I a0 x1 x2) (fun r11 => (if r11 = 0 then bd (f_X7_standsNear S R I a0 x2 x1) (fun r13 => (if r13 = 0 then some (0 : Int32) else f_X7_cameBeside_54 S R I  )) else f_X7_cameBeside_54 S R I  )) else f_X7_cameBeside_54 S R I  ))))))))))
set_option maxHeartbeats 4000000 in
theorem b_X7_cameBeside {E : Ev} {p : Program} {l : Launch} {e : Env} {s : State} {m : MethodId} {args : Array Value} {below : List Frame} {meth : Method} {c : Code} (C : Cx E RX7 cX7_cameBeside 3 p s m c) (hr : meth.sig.returnType = (some .boolean)) (hk : meth.locks = false) {S : Sh} {R : Rw} {I : Iw} {r : Int32}  : ∀ (a0 : Nat) (x1 : Int32) (x2 : Int32), f_X7_cameBeside S R I   a0 x1 x2 = some r → Wk E 3 p l e ({ frames := 3, cells := 0, slots := 0, locals := 66 } : Room) s m args below meth c 0 0 (MQ below (Qw E S R I (some (.int r))) args s 0 0 (fun q => E.1 ≤ q)) 0 [(0, .ref (E.1 + a0)), (1, .int x1), (2, .int x2)] [] S R I := by
  intro a0 x1 x2 h
  rw [f_X7_cameBeside] at h
  refine k_iloadn (pc := 0) C dX7_cameBeside_0 (i := 1) rfl 1 rfl ?_
  refine k_iloadn (pc := 1) C dX7_cameBeside_1 (i := 2) rfl 2 rfl ?_
  refine k_icmp_eq (pc := 2) C dX7_cameBeside_2 (tgt := 25) (by decide) (fun hc1 => ?_) (fun hc1 => ?_)
  · rw [if_pos hc1] at h
    refine k_iconst (pc := 25) C (v := (0 : Int32)) dX7_cameBeside_25 (by decide) ?_
    have h := Option.some.inj h
    subst h
    exact k_zret (pc := 26) C hr hk (Or.inl rfl) dX7_cameBeside_26
  · rw [if_neg hc1] at h
    refine k_aloadn (pc := 5) C dX7_cameBeside_5 (i := 0) rfl 0 rfl ?_
    obtain ⟨hs20, h⟩ := gp_e h
    have hs2 := sok_e hs20
    obtain ⟨b3, hb3, h⟩ := rl_e h
    refine k_getR (pc := 6) C lkF_RX7_9_7 hs2 ir_7_0 hb3 dX7_cameBeside_6 ?_
    refine k_iloadn (pc := 9) C dX7_cameBeside_9 (i := 1) rfl 1 rfl ?_
    obtain ⟨ha4, h⟩ := gp_e h
    refine k_iald (pc := 10) C ha4 dX7_cameBeside_10 ?_
    refine k_iconst (pc := 11) C (v := (3 : Int32)) dX7_cameBeside_11 (by decide) ?_
    refine k_icmp_eq (pc := 12) C dX7_cameBeside_12 (tgt := 25) (by decide) (fun hc5 => ?_) (fun hc5 => ?_)
    · rw [if_pos hc5] at h
      refine k_iconst (pc := 25) C (v := (0 : Int32)) dX7_cameBeside_25 (by decide) ?_
      have h := Option.some.inj h
      subst h
      exact k_zret (pc := 26) C hr hk (Or.inl rfl) dX7_cameBeside_26
    · rw [if_neg hc5] at h
      refine k_aloadn (pc := 15) C dX7_cameBeside_15 (i := 0) rfl 0 rfl ?_
      obtain ⟨b6, hb6, h⟩ := rl_e h
      refine k_getR (pc := 16) C lkF_RX7_9_7 hs2 ir_7_0 hb6 dX7_cameBeside_16 ?_
      refine k_iloadn (pc := 19) C dX7_cameBeside_19 (i := 2) rfl 2 rfl ?_
      obtain ⟨ha7, h⟩ := gp_e h
      refine k_iald (pc := 20) C ha7 dX7_cameBeside_20 ?_
      refine k_iconst (pc := 21) C (v := (3 : Int32)) dX7_cameBeside_21 (by decide) ?_
      refine k_icmp_ne (pc := 22) C dX7_cameBeside_22 (tgt := 27) (by decide) (fun hc8 => ?_) (fun hc8 => ?_)
      · rw [if_neg hc8] at h
        refine k_aloadn (pc := 27) C dX7_cameBeside_27 (i := 0) rfl 0 rfl ?_
        refine k_iloadn (pc := 28) C dX7_cameBeside_28 (i := 1) rfl 1 rfl ?_
        refine k_iloadn (pc := 29) C dX7_cameBeside_29 (i := 2) rfl 2 rfl ?_
        obtain ⟨r9, hr9, h⟩ := bd_e h
        refine k_V (pc := 30) (st := []) C (c_X7_isNear hr9) lkV_RX7_70 hs2 rfl rfl rfl (Nat.le_of_ble_eq_true rfl) (Nat.le_of_ble_eq_true rfl) (Nat.le_of_ble_eq_true rfl) (Nat.le_of_ble_eq_true rfl) (Nat.le_of_ble_eq_true rfl) dX7_cameBeside_30 ?_
        refine k_nf (cells2 := 0) (slots2 := 0) (st2 := [.int r9]) rfl rfl rfl ?_
        refine k_if_ne (pc := 33) C dX7_cameBeside_33 (tgt := 54) (by decide) (fun hc10 => ?_) (fun hc10 => ?_)
        · rw [if_neg hc10] at h
          refine k_loc (L2 := []) [] rfl ?_
          exact b_X7_cameBeside_54 C hr hk   h
        · rw [if_pos hc10] at h
          refine k_aloadn (pc := 36) C dX7_cameBeside_36 (i := 0) rfl 0 rfl ?_
          refine k_iloadn (pc := 37) C dX7_cameBeside_37 (i := 1) rfl 1 rfl ?_
          refine k_iloadn (pc := 38) C dX7_cameBeside_38 (i := 2) rfl 2 rfl ?_
          obtain ⟨r11, hr11, h⟩ := bd_e h
          refine k_V (pc := 39) (st := []) C (c_X7_standsNear hr11) lkV_RX7_73 hs2 rfl rfl rfl (Nat.le_of_ble_eq_true rfl) (Nat.le_of_ble_eq_true rfl) (Nat.le_of_ble_eq_true rfl) (Nat.le_of_ble_eq_true rfl) (Nat.le_of_ble_eq_true rfl) dX7_cameBeside_39 ?_
          refine k_nf (cells2 := 0) (slots2 := 0) (st2 := [.int r11]) rfl rfl rfl ?_
          refine k_if_ne (pc := 42) C dX7_cameBeside_42 (tgt := 54) (by decide) (fun hc12 => ?_) (fun hc12 => ?_)
          · rw [if_neg hc12] at h
            refine k_loc (L2 := []) [] rfl ?_
            exact b_X7_cameBeside_54 C hr hk   h
          · rw [if_pos hc12] at h
            refine k_aloadn (pc := 45) C dX7_cameBeside_45 (i := 0) rfl 0 rfl ?_
            refine k_iloadn (pc := 46) C dX7_cameBeside_46 (i := 2) rfl 2 rfl ?_
            refine k_iloadn (pc := 47) C dX7_cameBeside_47 (i := 1) rfl 1 rfl ?_
            obtain ⟨r13, hr13, h⟩ := bd_e h
            refine k_V (pc := 48) (st := []) C (c_X7_standsNear hr13) lkV_RX7_73 hs2 rfl rfl rfl (Nat.le_of_ble_eq_true rfl) (Nat.le_of_ble_eq_true rfl) (Nat.le_of_ble_eq_true rfl) (Nat.le_of_ble_eq_true rfl) (Nat.le_of_ble_eq_true rfl) dX7_cameBeside_48 ?_
            refine k_nf (cells2 := 0) (slots2 := 0) (st2 := [.int r13]) rfl rfl rfl ?_
            refine k_if_eq (pc := 51) C dX7_cameBeside_51 (tgt := 58) (by decide) (fun hc14 => ?_) (fun hc14 => ?_)
            · rw [if_pos hc14] at h
              refine k_iconst (pc := 58) C (v := (0 : Int32)) dX7_cameBeside_58 (by decide) ?_
              have h := Option.some.inj h
              subst h
              exact k_zret (pc := 59) C hr hk (Or.inl rfl) dX7_cameBeside_59
            · rw [if_neg hc14] at h
              refine k_loc (L2 := []) [] rfl ?_
              exact b_X7_cameBeside_54 C hr hk   h
      · rw [if_pos hc8] at h
        refine k_iconst (pc := 25) C (v := (0 : Int32)) dX7_cameBeside_25 (by decide) ?_
        have h := Option.some.inj h
        subst h
        exact k_zret (pc := 26) C hr hk (Or.inl rfl) dX7_cameBeside_26
theorem c_X7_cameBeside {E : Ev} {l : Launch} {S : Sh} {R : Rw} {I : Iw} {a0 : Nat} {x1 : Int32} {x2 : Int32} {r : Int32} (h : f_X7_cameBeside S R I a0 x1 x2 = some r) : Mt E l yX7_cameBeside cX7_cameBeside 3 (some .boolean) 3 66 [.ref (E.1 + a0), .int x1, .int x2] S R I S R I (some (.int r)) 0 0 := mt_of (by decide) (Nat.le_of_ble_eq_true rfl) (fun p e s m args below meth c C hr hk hn => b_X7_cameBeside C hr hk _ _ _ h)
theorem lkV_RX7_66 : LkV RX7 66 RX7 yX7_cameBeside cX7_cameBeside 3 (some .boolean) 2 := ⟨(t2_in 45 (by decide +kernel) rfl), (t2_in 47 (by decide +kernel) rfl), (t0_in 0 (by decide +kernel) rfl), (t2_in 48 (by decide +kernel) rfl), (t1_in 2 (by decide +kernel) rfl), by decide, by decide +kernel⟩
theorem dX7_renewMates_0 : decode cX7_renewMates 0 = .ok (.iconst 0, 1) := by decide +kernel
theorem dX7_renewMates_1 : decode cX7_renewMates 1 = .ok (.istore_n 1, 1) := by decide +kernel
theorem dX7_renewMates_2 : decode cX7_renewMates 2 = .ok (.iload_n 1, 1) := by decide +kernel
theorem dX7_renewMates_3 : decode cX7_renewMates 3 = .ok (.aload_n 0, 1) := by decide +kernel
theorem dX7_renewMates_4 : decode cX7_renewMates 4 = .ok (.getfield 50, 3) := by decide +kernel
theorem dX7_renewMates_7 : decode cX7_renewMates 7 = .ok (.if_icmp .ge 49, 3) := by decide +kernel
theorem dX7_renewMates_10 : decode cX7_renewMates 10 = .ok (.iconst 0, 1) := by decide +kernel
theorem dX7_renewMates_11 : decode cX7_renewMates 11 = .ok (.istore_n 2, 1) := by decide +kernel
theorem dX7_renewMates_12 : decode cX7_renewMates 12 = .ok (.iconst 0, 1) := by decide +kernel
theorem dX7_renewMates_13 : decode cX7_renewMates 13 = .ok (.istore_n 3, 1) := by decide +kernel
theorem dX7_renewMates_14 : decode cX7_renewMates 14 = .ok (.iload_n 3, 1) := by decide +kernel
theorem dX7_renewMates_15 : decode cX7_renewMates 15 = .ok (.aload_n 0, 1) := by decide +kernel
theorem dX7_renewMates_16 : decode cX7_renewMates 16 = .ok (.getfield 50, 3) := by decide +kernel
theorem dX7_renewMates_19 : decode cX7_renewMates 19 = .ok (.if_icmp .ge 24, 3) := by decide +kernel
theorem dX7_renewMates_22 : decode cX7_renewMates 22 = .ok (.aload_n 0, 1) := by decide +kernel
theorem dX7_renewMates_23 : decode cX7_renewMates 23 = .ok (.iload_n 1, 1) := by decide +kernel
theorem dX7_renewMates_24 : decode cX7_renewMates 24 = .ok (.iload_n 3, 1) := by decide +kernel
theorem dX7_renewMates_25 : decode cX7_renewMates 25 = .ok (.invokevirtual 66, 3) := by decide +kernel
theorem dX7_renewMates_28 : decode cX7_renewMates 28 = .ok (.ifCond .eq 9, 3) := by decide +kernel
theorem dX7_renewMates_31 : decode cX7_renewMates 31 = .ok (.iload_n 2, 1) := by decide +kernel
theorem dX7_renewMates_32 : decode cX7_renewMates 32 = .ok (.iconst 1, 1) := by decide +kernel
theorem dX7_renewMates_33 : decode cX7_renewMates 33 = .ok (.iload_n 3, 1) := by decide +kernel
theorem dX7_renewMates_34 : decode cX7_renewMates 34 = .ok (.ishl, 1) := by decide +kernel
theorem dX7_renewMates_35 : decode cX7_renewMates 35 = .ok (.ior, 1) := by decide +kernel
theorem dX7_renewMates_36 : decode cX7_renewMates 36 = .ok (.istore_n 2, 1) := by decide +kernel
theorem dX7_renewMates_37 : decode cX7_renewMates 37 = .ok (.iinc 3 1, 3) := by decide +kernel
theorem dX7_renewMates_40 : decode cX7_renewMates 40 = .ok (.goto (-26), 3) := by decide +kernel
theorem dX7_renewMates_43 : decode cX7_renewMates 43 = .ok (.aload_n 0, 1) := by decide +kernel
theorem dX7_renewMates_44 : decode cX7_renewMates 44 = .ok (.getfield 24, 3) := by decide +kernel
theorem dX7_renewMates_47 : decode cX7_renewMates 47 = .ok (.iload_n 1, 1) := by decide +kernel
theorem dX7_renewMates_48 : decode cX7_renewMates 48 = .ok (.iload_n 2, 1) := by decide +kernel
theorem dX7_renewMates_49 : decode cX7_renewMates 49 = .ok (.iastore, 1) := by decide +kernel
theorem dX7_renewMates_50 : decode cX7_renewMates 50 = .ok (.iinc 1 1, 3) := by decide +kernel
theorem dX7_renewMates_53 : decode cX7_renewMates 53 = .ok (.goto (-51), 3) := by decide +kernel
theorem dX7_renewMates_56 : decode cX7_renewMates 56 = .ok (.return_, 1) := by decide +kernel
def f_X7_renewMates_37 (S : Sh) (R : Rw) (ko2 : Iw → Nat → Int32 → Option (Iw)) (ko14 : Iw → Nat → Int32 → Int32 → Int32 → Option (Iw)) (I : Iw) (a0 : Nat) (x1 : Int32) (x2 : Int32) (x3 : Int32) : Option (Iw) := ko14 I a0 x1 x2 (x3 + (1 : Int32))
set_option maxHeartbeats 4000000 in
theorem b_X7_renewMates_37 {E : Ev} {p : Program} {l : Launch} {e : Env} {s : State} {m : MethodId} {args : Array Value} {below : List Frame} {meth : Method} {c : Code} (C : Cx E RX7 cX7_renewMates 4 p s m c) (hr : meth.sig.returnType = none) (hk : meth.locks = false) {S : Sh} {R : Rw} {r : Iw}  {ko2 : Iw → Nat → Int32 → Option (Iw)} (hko2 : ∀ (I : Iw) (a0 : Nat) (x1 : Int32), ko2 I a0 x1 = some r → Wk E 4 p l e ({ frames := 4, cells := 0, slots := 0, locals := 88 } : Room) s m args below meth c 0 0 (MQ below (Qw E S R r none) args s 0 0 (fun q => E.1 ≤ q)) 2 [(0, .ref (E.1 + a0)), (1, .int x1)] [] S R I) {ko14 : Iw → Nat → Int32 → Int32 → Int32 → Option (Iw)} (hko14 : ∀ (I : Iw) (a0 : Nat) (x1 : Int32) (x2 : Int32) (x3 : Int32), ko14 I a0 x1 x2 x3 = some r → Wk E 4 p l e ({ frames := 4, cells := 0, slots := 0, locals := 88 } : Room) s m args below meth c 0 0 (MQ below (Qw E S R r none) args s 0 0 (fun q => E.1 ≤ q)) 14 [(0, .ref (E.1 + a0)), (1, .int x1), (2, .int x2), (3, .int x3)] [] S R I) : ∀ (I : Iw) (a0 : Nat) (x1 : Int32) (x2 : Int32) (x3 : Int32), f_X7_renewMates_37 S R ko2 ko14  I a0 x1 x2 x3 = some r → Wk E 4 p l e ({ frames := 4, cells := 0, slots := 0, locals := 88 } : Room) s m args below meth c 0 0 (MQ below (Qw E S R r none) args s 0 0 (fun q => E.1 ≤ q)) 37 [(0, .ref (E.1 + a0)), (1, .int x1), (2, .int x2), (3, .int x3)] [] S R I := by
  intro I a0 x1 x2 x3 h
  rw [f_X7_renewMates_37] at h
  refine k_iinc (pc := 37) C dX7_renewMates_37 3 rfl (v := x3 + (1 : Int32)) (by rfl) (by decide) (L2 := [(0, .ref (E.1 + a0)), (1, .int x1), (2, .int x2), (3, .int (x3 + (1 : Int32)))]) rfl ?_
  refine k_goto (pc := 40) C dX7_renewMates_40 (tgt := 14) (by decide) ?_
  exact hko14 _ _ _ _ _ h
def f_X7_renewMates_14 (S : Sh) (R : Rw) (ko2 : Iw → Nat → Int32 → Option (Iw)) : Nat → Iw → Nat → Int32 → Int32 → Int32 → Option (Iw)
  | 0, _, _, _, _, _ => none
  | n + 1, I, a0, x1, x2, x3 => gp (sok S a0 7 16) ((if (I a0 5) ≤ x3 then rl (R a0 4) (fun b5 => gp (aok S 20 b5 x1) (lt (up2 I b5 x1.toNatClampNeg x2) (fun I7 => ko2 I7 a0 (x1 + (1 : Int32))))) else bd (f_X7_cameBeside S R I a0 x1 x3) (fun r8 => (if r8 = 0 then f_X7_renewMates_37 S R ko2 (f_X7_renewMates_14 S R ko2 n) I a0 x1 x2 x3 else f_X7_renewMates_37 S R ko2 (f_X7_renewMates_14 S R ko2 n) I a0 x1 (x2 ||| ((1 : Int32) <<< (x3 &&& 31))) x3))))
set_option maxHeartbeats 4000000 in
theorem b_X7_renewMates_14 {E : Ev} {p : Program} {l : Launch} {e : Env} {s : State} {m : MethodId} {args : Array Value} {below : List Frame} {meth : Method} {c : Code} (C : Cx E RX7 cX7_renewMates 4 p s m c) (hr : meth.sig.returnType = none) (hk : meth.locks = false) {S : Sh} {R : Rw} {r : Iw}  {ko2 : Iw → Nat → Int32 → Option (Iw)} (hko2 : ∀ (I : Iw) (a0 : Nat) (x1 : Int32), ko2 I a0 x1 = some r → Wk E 4 p l e ({ frames := 4, cells := 0, slots := 0, locals := 88 } : Room) s m args below meth c 0 0 (MQ below (Qw E S R r none) args s 0 0 (fun q => E.1 ≤ q)) 2 [(0, .ref (E.1 + a0)), (1, .int x1)] [] S R I) : ∀ (n : Nat) (I : Iw) (a0 : Nat) (x1 : Int32) (x2 : Int32) (x3 : Int32), f_X7_renewMates_14 S R ko2 n I a0 x1 x2 x3 = some r → Wk E 4 p l e ({ frames := 4, cells := 0, slots := 0, locals := 88 } : Room) s m args below meth c 0 0 (MQ below (Qw E S R r none) args s 0 0 (fun q => E.1 ≤ q)) 14 [(0, .ref (E.1 + a0)), (1, .int x1), (2, .int x2), (3, .int x3)] [] S R I := by
  intro n
  induction n with
  | zero =>
    intro I a0 x1 x2 x3 h
    rw [f_X7_renewMates_14] at h
    cases h
  | succ n ih =>
    intro I a0 x1 x2 x3 h
    rw [f_X7_renewMates_14] at h
    refine k_iloadn (pc := 14) C dX7_renewMates_14 (i := 3) rfl 3 rfl ?_
    refine k_aloadn (pc := 15) C dX7_renewMates_15 (i := 0) rfl 0 rfl ?_
    obtain ⟨hs30, h⟩ := gp_e h
    have hs3 := sok_e hs30
    refine k_getI (pc := 16) C lkF_RX7_50_7 hs3 ir_7_5 dX7_renewMates_16 ?_
    refine k_icmp_ge (pc := 19) C dX7_renewMates_19 (tgt := 43) (by decide) (fun hc4 => ?_) (fun hc4 => ?_)
    · rw [if_pos hc4] at h
      refine k_aloadn (pc := 43) C dX7_renewMates_43 (i := 0) rfl 0 rfl ?_
      obtain ⟨b5, hb5, h⟩ := rl_e h
      refine k_getR (pc := 44) C lkF_RX7_24_7 hs3 ir_7_4 hb5 dX7_renewMates_44 ?_
      refine k_iloadn (pc := 47) C dX7_renewMates_47 (i := 1) rfl 1 rfl ?_
      refine k_iloadn (pc := 48) C dX7_renewMates_48 (i := 2) rfl 2 rfl ?_
      obtain ⟨ha6, h⟩ := gp_e h
      obtain ⟨I7, eI7, h⟩ := lt_e h
      refine k_iast (pc := 49) C ha6 dX7_renewMates_49 ?_
      rw [← eI7]
      refine k_iinc (pc := 50) C dX7_renewMates_50 1 rfl (v := x1 + (1 : Int32)) (by rfl) (by decide) (L2 := [(0, .ref (E.1 + a0)), (1, .int (x1 + (1 : Int32))), (2, .int x2), (3, .int x3)]) rfl ?_
      refine k_goto (pc := 53) C dX7_renewMates_53 (tgt := 2) (by decide) ?_
      refine k_loc (L2 := [(0, .ref (E.1 + a0)), (1, .int (x1 + (1 : Int32)))]) [0, 1] rfl ?_
      exact hko2 _ _ _ h
    · rw [if_neg hc4] at h
      refine k_aloadn (pc := 22) C dX7_renewMates_22 (i := 0) rfl 0 rfl ?_
      refine k_iloadn (pc := 23) C dX7_renewMates_23 (i := 1) rfl 1 rfl ?_
      refine k_iloadn (pc := 24) C dX7_renewMates_24 (i := 3) rfl 3 rfl ?_
      obtain ⟨r8, hr8, h⟩ := bd_e h
      refine k_V (pc := 25) (st := []) C (c_X7_cameBeside hr8) lkV_RX7_66 hs3 rfl rfl rfl (Nat.le_of_ble_eq_true rfl) (Nat.le_of_ble_eq_true rfl) (Nat.le_of_ble_eq_true rfl) (Nat.le_of_ble_eq_true rfl) (Nat.le_of_ble_eq_true rfl) dX7_renewMates_25 ?_
      refine k_nf (cells2 := 0) (slots2 := 0) (st2 := [.int r8]) rfl rfl rfl ?_
      refine k_if_eq (pc := 28) C dX7_renewMates_28 (tgt := 37) (by decide) (fun hc9 => ?_) (fun hc9 => ?_)
      · rw [if_pos hc9] at h
        exact b_X7_renewMates_37 C hr hk hko2 ih _ _ _ _ _ h
      · rw [if_neg hc9] at h
        refine k_iloadn (pc := 31) C dX7_renewMates_31 (i := 2) rfl 2 rfl ?_
        refine k_iconst (pc := 32) C (v := (1 : Int32)) dX7_renewMates_32 (by decide) ?_
        refine k_iloadn (pc := 33) C dX7_renewMates_33 (i := 3) rfl 3 rfl ?_
        refine k_ishl (pc := 34) C dX7_renewMates_34 ?_
        refine k_ior (pc := 35) C dX7_renewMates_35 ?_
        refine k_istoren (pc := 36) C dX7_renewMates_36 (i := 2) rfl (by decide) (L2 := [(0, .ref (E.1 + a0)), (1, .int x1), (2, .int (x2 ||| ((1 : Int32) <<< (x3 &&& 31)))), (3, .int x3)]) rfl ?_
        exact b_X7_renewMates_37 C hr hk hko2 ih _ _ _ _ _ h
def f_X7_renewMates_2 (S : Sh) (R : Rw)  : Nat → Iw → Nat → Int32 → Option (Iw)
  | 0, _, _, _ => none
  | n + 1, I, a0, x1 => gp (sok S a0 7 16) ((if (I a0 5) ≤ x1 then some I else f_X7_renewMates_14 S R (f_X7_renewMates_2 S R  n) 512 I a0 x1 (0 : Int32) (0 : Int32)))
set_option maxHeartbeats 4000000 in
theorem b_X7_renewMates_2 {E : Ev} {p : Program} {l : Launch} {e : Env} {s : State} {m : MethodId} {args : Array Value} {below : List Frame} {meth : Method} {c : Code} (C : Cx E RX7 cX7_renewMates 4 p s m c) (hr : meth.sig.returnType = none) (hk : meth.locks = false) {S : Sh} {R : Rw} {r : Iw}  : ∀ (n : Nat) (I : Iw) (a0 : Nat) (x1 : Int32), f_X7_renewMates_2 S R  n I a0 x1 = some r → Wk E 4 p l e ({ frames := 4, cells := 0, slots := 0, locals := 88 } : Room) s m args below meth c 0 0 (MQ below (Qw E S R r none) args s 0 0 (fun q => E.1 ≤ q)) 2 [(0, .ref (E.1 + a0)), (1, .int x1)] [] S R I := by
  intro n
  induction n with
  | zero =>
    intro I a0 x1 h
    rw [f_X7_renewMates_2] at h
    cases h
  | succ n ih =>
    intro I a0 x1 h
    rw [f_X7_renewMates_2] at h
    refine k_iloadn (pc := 2) C dX7_renewMates_2 (i := 1) rfl 1 rfl ?_
    refine k_aloadn (pc := 3) C dX7_renewMates_3 (i := 0) rfl 0 rfl ?_
    obtain ⟨hs10, h⟩ := gp_e h
    have hs1 := sok_e hs10
    refine k_getI (pc := 4) C lkF_RX7_50_7 hs1 ir_7_5 dX7_renewMates_4 ?_
    refine k_icmp_ge (pc := 7) C dX7_renewMates_7 (tgt := 56) (by decide) (fun hc2 => ?_) (fun hc2 => ?_)
    · rw [if_pos hc2] at h
      have h := Option.some.inj h
      subst h
      exact k_vret (pc := 56) C hr hk dX7_renewMates_56
    · rw [if_neg hc2] at h
      refine k_iconst (pc := 10) C (v := (0 : Int32)) dX7_renewMates_10 (by decide) ?_
      refine k_istoren (pc := 11) C dX7_renewMates_11 (i := 2) rfl (by decide) (L2 := [(0, .ref (E.1 + a0)), (1, .int x1), (2, .int (0 : Int32))]) rfl ?_
      refine k_iconst (pc := 12) C (v := (0 : Int32)) dX7_renewMates_12 (by decide) ?_
      refine k_istoren (pc := 13) C dX7_renewMates_13 (i := 3) rfl (by decide) (L2 := [(0, .ref (E.1 + a0)), (1, .int x1), (2, .int (0 : Int32)), (3, .int (0 : Int32))]) rfl ?_
      exact b_X7_renewMates_14 C hr hk ih _ _ _ _ _ _ h
def f_X7_renewMates (S : Sh) (R : Rw)  (I : Iw) (a0 : Nat) : Option (Iw) := f_X7_renewMates_2 S R  512 I a0 (0 : Int32)
set_option maxHeartbeats 4000000 in
theorem b_X7_renewMates {E : Ev} {p : Program} {l : Launch} {e : Env} {s : State} {m : MethodId} {args : Array Value} {below : List Frame} {meth : Method} {c : Code} (C : Cx E RX7 cX7_renewMates 4 p s m c) (hr : meth.sig.returnType = none) (hk : meth.locks = false) {S : Sh} {R : Rw} {r : Iw}  : ∀ (I : Iw) (a0 : Nat), f_X7_renewMates S R   I a0 = some r → Wk E 4 p l e ({ frames := 4, cells := 0, slots := 0, locals := 88 } : Room) s m args below meth c 0 0 (MQ below (Qw E S R r none) args s 0 0 (fun q => E.1 ≤ q)) 0 [(0, .ref (E.1 + a0))] [] S R I := by
  intro I a0 h
  rw [f_X7_renewMates] at h
  refine k_iconst (pc := 0) C (v := (0 : Int32)) dX7_renewMates_0 (by decide) ?_
  refine k_istoren (pc := 1) C dX7_renewMates_1 (i := 1) rfl (by decide) (L2 := [(0, .ref (E.1 + a0)), (1, .int (0 : Int32))]) rfl ?_
  exact b_X7_renewMates_2 C hr hk  _ _ _ _ h
theorem c_X7_renewMates {E : Ev} {l : Launch} {S : Sh} {R : Rw} {I : Iw} {a0 : Nat} {r : Iw} (h : f_X7_renewMates S R I a0 = some r) : Mt E l yX7_renewMates cX7_renewMates 4 none 4 88 [.ref (E.1 + a0)] S R I S R r none 0 0 := mt_of (by decide) (Nat.le_of_ble_eq_true rfl) (fun p e s m args below meth c C hr hk hn => b_X7_renewMates C hr hk _ _ h)
