/-! CALLS: rules -/
section ZRU
variable {J : Sh} {R : Rw} {I : Iw} {D : Dt}
def dz5 : Nat → Rl5 := fun _ => (0, 0, 0, [], [])
theorem z_rules {n0 : Nat} (hR : Lay R) (h : Core I D (16 * n0)) (hK : Rest (S0 ++ J) R I) : ZR n0 (S0 ++ J) R (f_X11_rules (S0 ++ J) R I 0) (fun I1 => f_X12_rules (S0 ++ J) R I1 65) := by
  have ⟨hC, hM, hV, hT⟩ := h
  obtain ⟨n, hn, t0, t1, tb⟩ := hK.2.1
  have hb : ∀ k, k < n → (I 69 k).toNatClampNeg < 256 ∧ I 69 k = nI (I 69 k).toNatClampNeg ∧ I 34 k = sb (I 69 k).toNatClampNeg := fun k hk => by
    obtain ⟨c, c1, c2, c3⟩ := tb k hk
    rw [c2, nI_clamp (by omega)]
    exact ⟨c1, rfl, c3⟩
  generalize hbb : (fun k => (I 69 k).toNatClampNeg) = b at *
  have hb : ∀ k, k < n → b k < 256 ∧ I 69 k = nI (b k) ∧ I 34 k = sb (b k) := fun k hk => by rw [← hbb]; exact hb k hk
  have hTW : TW I b n := ⟨hn, t0, fun k hk => ⟨(hb k hk).1, (hb k hk).2.2⟩⟩
  obtain ⟨I1, p1, p2, p3⟩ := q_part (J := J) hR hTW
  have hC4 : CSt (up2 (up2 (up2 (up2 I1 33 5 (nI 0)) 33 0 (nI 0)) 37 0 (nI 0)) 37 4 (nI 0)) b n 0 0 (stR (rcl dz5) 0) :=
    ⟨At_fr (fun a j q => by rw [u_eq, if_neg (by omega), u_eq, if_neg (by omega), u_eq, if_neg (by omega)]) p2, by rw [u_eq, if_pos ⟨rfl, rfl⟩]; rfl, by show 0 ≤ 128; omega⟩
  have hS4 : CRs (up2 (up2 (up2 (up2 I1 33 5 (nI 0)) 33 0 (nI 0)) 37 0 (nI 0)) 37 4 (nI 0)) 0 dz5 :=
    ⟨by rw [u_eq, if_neg (by omega), u_eq, if_pos ⟨rfl, rfl⟩], by rw [u_eq, if_pos ⟨rfl, rfl⟩]; rfl, fun r hr => absurd hr (by omega)⟩
  obtain ⟨I5, f5, g5, g6⟩ := q_23 (J := J) hR 9 512 _ 0 0 0 dz5 (by omega) (by omega) hC4 hS4 (by show 5 * 0 ≤ 2 * 0; omega) ⟨by omega, fun r hr => absurd hr (by omega)⟩
  have fI : ∀ a j, ¬ (a = 33 ∧ (j = 0 ∨ j = 4 ∨ j = 5)) → (a < 35 ∨ 43 < a) → I5 a j = I a j := fun a j q1 q2 => by
    rw [f5 a j (by omega) (by omega), u_eq, if_neg (by omega), u_eq, if_neg (by omega), u_eq, if_neg (by omega), u_eq, if_neg (by omega), p3 a j (by omega) (by omega) (by omega)]
  have f33 : I5 33 0 = nI 0 := by
    rw [f5 33 0 (by omega) (by omega), u_eq, if_neg (by omega), u_eq, if_neg (by omega), u_eq, if_pos ⟨rfl, rfl⟩]
  have hcl : f_X11_rules (S0 ++ J) R I 0 = bd (f_X3_readInto_23 (S0 ++ J) R 512 (up2 (up2 (up2 (up2 I1 33 5 (nI 0)) 33 0 (nI 0)) 37 0 (nI 0)) 37 4 (nI 0)) 33 8 (nI 0)) (fun r7 => some (r7.1, r7.2)) := by
    rw [f_X11_rules, so_0, gp1, ly_0_3 hR, rl1, ly_0_0 hR, rl1, so_1, gp1, ly_1_11 hR, rl1, so_33, gp1, f_X3_readInto, so_33, gp1, p1, bd1, lt1, lt1, ly_33_6 hR, rl1, so_37, gp1, f_X5_clear, so_37, gp1, lt1, lt1, bd1]
    rfl
  -- the reference, from a world that the class left
  have ref : ∀ IC : Iw, (∀ a j, (a = 65 ∨ a = 69) → IC a j = I a j) → ∃ I6 nr', f_X12_rules (S0 ++ J) R IC 65 = f_X12_rules_51 (S0 ++ J) R I6 65 (nI nr') ∧ frG IC I6 ∧ (∀ g, pRls b n 9 0 0 dz5 = .inl g → FSt I6 b n g) ∧
      ∀ p, pRls b n 9 0 0 dz5 = .inr p → nr' = p.1 ∧ I6 65 9 = 0 ∧ I6 65 12 = nI (tkR (rrw p.2) p.1) ∧ MRs I6 p.1 p.2 ∧ tkR (rrw p.2) p.1 ≤ n := by
    intro IC hIC
    have hTM : TMb (up2 (up2 (up2 (up2 IC 65 7 (nI 0)) 65 9 0) 65 10 0) 65 12 (nI 0)) b n := by
      refine ⟨hn, ?_, fun k hk => ⟨(hb k hk).1, ?_⟩⟩
      · rw [u_eq, if_neg (by omega), u_eq, if_neg (by omega), u_eq, if_neg (by omega), u_eq, if_neg (by omega), hIC 65 5 (by omega)]; exact t1
      · rw [u_eq, if_neg (by omega), u_eq, if_neg (by omega), u_eq, if_neg (by omega), u_eq, if_neg (by omega), hIC 69 k (by omega)]; exact (hb k hk).2.1
    obtain ⟨I7, e1, e2, e3⟩ := m_next (J := J) hR hTM (Nat.zero_le n) (by rw [u_eq, if_neg (by omega), u_eq, if_neg (by omega), u_eq, if_neg (by omega), u_eq, if_pos ⟨rfl, rfl⟩])
    have hR7 : RSt I7 b n 0 0 (tkR (rrw dz5) 0) := by
      refine ⟨TMb_fr hTM fun a j z => e3 a j (by omega), Nat.zero_le n, e2, ?_, ?_, ?_⟩
      · rw [e3 65 9 (by omega), u_eq, if_neg (by omega), u_eq, if_neg (by omega), u_eq, if_pos ⟨rfl, rfl⟩]
      · rw [e3 65 10 (by omega), u_eq, if_neg (by omega), u_eq, if_pos ⟨rfl, rfl⟩]
      · rw [e3 65 12 (by omega), u_eq, if_pos ⟨rfl, rfl⟩]; rfl
    obtain ⟨I6, nr', k1, k2, k3, k4⟩ := m_26 (J := J) hR 9 512 I7 0 0 dz5 (by omega) (by omega) hR7 (fun r hr => absurd hr (by omega)) (Nat.le_refl 0) (by omega)
    refine ⟨I6, nr', ?_, fun a j q1 q2 q3 => ?_, k3, k4⟩
    · rw [f_X12_rules, so_65, gp1, lt1, lt1, lt1, lt1]
      have e1 : f_X12_next (S0 ++ J) R (up2 (up2 (up2 (up2 IC 65 7 0) 65 9 0) 65 10 0) 65 12 0) 65 = some I7 := e1
      rw [e1, bd1]; exact k1
    · rw [k2 a j q1 q2 q3, e3 a j (by omega), u_eq, if_neg (by omega), u_eq, if_neg (by omega), u_eq, if_neg (by omega), u_eq, if_neg (by omega)]
  cases hp : pRls b n 9 0 0 dz5 with
  | inl g =>
    obtain ⟨I6, nr', k1, k2, k3, _⟩ := ref I5 (fun a j q => fI a j (by omega) (by omega))
    have F := k3 g hp
    have fr : ∀ a j, ¬ (a = 33 ∧ (j = 0 ∨ j = 4 ∨ j = 5)) → ¬ (a = 65 ∧ 5 ≤ j ∧ j ≤ 12) → (a < 35 ∨ 43 < a) → a ≠ 70 → (a < 73 ∨ 76 < a) → up2 I6 65 5 0 a j = I a j := fun a j q1 q2 q3 q4 q5 => by
      rw [u_eq, if_neg (by omega), k2 a j (by omega) q4 q5, fI a j q1 q3]
    refine ⟨I5, -100 - nI (skp b n g), up2 I6 65 5 0, ?_, ?_, J, D, rfl, hR, Core_to ⟨CR_fr (fun a j q1 q2 => fr a j (by omega) (by omega) (by omega) (by omega) (by omega)) hC, MR_fr (fun j => fr 66 j (by omega) (by omega) (by omega) (by omega) (by omega)) hM, hV, ST_up (by omega) (ST_fr (fun a j q => fr a j (by omega) (by omega) (by omega) (by omega) (by omega)) hT)⟩, KP_s (fun a j q => fr a j (by omega) (by omega) (by omega) (by omega) (by omega)) hK.1, ⟨0, by omega, ?_, ?_, fun k hk => absurd hk (by omega)⟩, RW_s (fun a j q => fr a j (by omega) (by omega) (by omega) (by omega) (by omega)) hK.2.2.1, SH_s (fun a j q => fr a j (by omega) (by omega) (by omega) (by omega) (by omega)) hK.2.2.2.1, SV_s (fun a j q => fr a j (by omega) (by omega) (by omega) (by omega) (by omega)) hK.2.2.2.2.1, TH_s (fun a j q => fr a j (by omega) (by omega) (by omega) (by omega) (by omega)) hK.2.2.2.2.2⟩
    · rw [hcl, g5 g hp, bd1]
    · show f_X12_rules (S0 ++ J) R I5 65 = _
      have x9 : up2 I6 65 5 0 65 9 = 1 := by rw [u_eq, if_neg (by omega)]; exact F.2.2.2
      have x6 : up2 I6 65 5 0 65 6 = nI (skp b n g) := by rw [u_eq, if_neg (by omega)]; exact F.2.2.1.1
      rw [k1, f_X12_rules_51, so_65, gp1, lt1, x9, if_neg (by decide), x6]
    · rw [u_eq, if_neg (by omega), k2 33 0 (by omega) (by omega) (by omega), f33]
    · rw [u_eq, if_pos ⟨rfl, rfl⟩]; rfl
  | inr p =>
    obtain ⟨q1, q2, q3, q4⟩ := g6 p hp
    have fC : ∀ a j, (a < 8 ∨ 14 < a) → c8g I5 a j = I5 a j := fun a j q => by
      rw [c8_e, if_neg (by omega), if_neg (by omega), if_neg (by omega), if_neg (by omega), if_neg (by omega), if_neg (by omega), c8a, u_eq, if_neg (by omega), u_eq, if_neg (by omega)]
    obtain ⟨I6, nr', k1, k2, _, k4⟩ := ref (c8g I5) (fun a j q => (fC a j (by omega)).trans (fI a j (by omega) (by omega)))
    obtain ⟨d1, d2, d3, d4, d5⟩ := k4 p hp
    subst d1
    have h8 := q3.1
    obtain ⟨I8, v1, v2, v3, v4, v5, v6⟩ := m_80 (J := J) (m := tkR (rrw p.2) p.1) hR (by omega) h8 p.1 0 512 (up2 (up2 I6 65 5 0) 66 4 (nI p.1)) (by omega) (by omega) (by rw [u_eq, if_neg (by omega), u_eq, if_neg (by omega)]; exact d3)
    have g1 : ∀ a j, a ≠ 66 → ¬ (a = 65 ∧ j = 5) → I8 a j = I6 a j := fun a j z1 z2 => by rw [v2 a j z1, u_eq, if_neg (by omega), u_eq, if_neg z2]
    have fr : ∀ a j, ¬ (a = 33 ∧ (j = 0 ∨ j = 4 ∨ j = 5)) → ¬ (a = 65 ∧ 5 ≤ j ∧ j ≤ 12) → (a < 8 ∨ 14 < a) → (a < 35 ∨ 43 < a) → a ≠ 66 → a ≠ 70 → (a < 73 ∨ 76 < a) → I8 a j = I a j := fun a j z1 z2 z3 z4 z5 z6 z7 => by
      rw [g1 a j z5 (by omega), k2 a j (by omega) z6 z7, fC a j z3, fI a j z1 z4]
    have w : ∀ a i, (73 ≤ a ∧ a ≤ 76) → up2 (up2 I6 65 5 0) 66 4 (nI p.1) a i = I6 a i := fun a i z => by rw [u_eq, if_neg (by omega), u_eq, if_neg (by omega)]
    have cI5 : CR I5 1 D := CR_fr (fun k j z1 z2 => fI k j (by omega) (by omega)) hC
    have c2 : CR I8 1 (DR D p.1 p.2) := CR_fr (fun k j z1 z2 => by rw [g1 k j (by omega) (by omega), k2 k j (by omega) (by omega) (by omega)]) (CR_ru cI5 q2 q3 (by omega))
    have m6 : MR I6 66 D := MR_fr (fun j => by rw [k2 66 j (by omega) (by omega) (by omega), fC 66 j (by omega), fI 66 j (by omega) (by omega)]) hM
    have m2 : MR I8 66 (DR D p.1 p.2) := MR_ru m6 d4 h8 (by omega) (by rw [v6 4 (by omega), u_eq, if_pos ⟨rfl, rfl⟩]) (fun i hi => by
        have := v3 i (by omega) hi
        rw [w 74 i (by omega), w 75 i (by omega), w 76 i (by omega), w 73 i (by omega)] at this
        exact this) v4 (fun j hj => by rw [v5 j hj, u_eq, if_neg (by omega), u_eq, if_neg (by omega)]) (fun j z1 z2 => by rw [v6 j (by omega), u_eq, if_neg (by omega), u_eq, if_neg (by omega)]) hV
    refine ⟨c8g I5, nI p.1, I8, ?_, ?_, J, DR D p.1 p.2, rfl, hR, Core_to ⟨c2, m2, VD_ru hV q3 q4 hn d5, ST_up (by omega) (ST_fr (fun a j q => fr a j (by omega) (by omega) (by omega) (by omega) (by omega) (by omega) (by omega)) hT)⟩, KP_s (fun a j q => fr a j (by omega) (by omega) (by omega) (by omega) (by omega) (by omega) (by omega)) hK.1, ⟨0, by omega, ?_, ?_, fun k hk => absurd hk (by omega)⟩, RW_s (fun a j q => fr a j (by omega) (by omega) (by omega) (by omega) (by omega) (by omega) (by omega)) hK.2.2.1, SH_s (fun a j q => fr a j (by omega) (by omega) (by omega) (by omega) (by omega) (by omega) (by omega)) hK.2.2.2.1, SV_s (fun a j q => fr a j (by omega) (by omega) (by omega) (by omega) (by omega) (by omega) (by omega)) hK.2.2.2.2.1, TH_s (fun a j q => fr a j (by omega) (by omega) (by omega) (by omega) (by omega) (by omega) (by omega)) hK.2.2.2.2.2⟩
    · rw [hcl, q1, q_80 hR, bd1, q2.1]
    · show f_X12_rules (S0 ++ J) R (c8g I5) 65 = _
      have x9 : up2 I6 65 5 0 65 9 = 0 := by rw [u_eq, if_neg (by omega)]; exact d2
      rw [k1, f_X12_rules_51, so_65, gp1, lt1, x9, if_pos rfl, ly_65_0 hR, rl1, show aok (S0 ++ J) 20 66 4 = true from rfl, gp1, lt1]
      exact v1
    · rw [g1 33 0 (by omega) (by omega), k2 33 0 (by omega) (by omega) (by omega), fC 33 0 (by omega), f33]
    · rw [v2 65 5 (by omega), u_eq, if_neg (by omega), u_eq, if_pos ⟨rfl, rfl⟩]; rfl
end ZRU
