/-! ALL THE RULES OF A TAPE -/
def rup (rs : Nat → Rl5) (nr : Nat) (x : Rl5) : Nat → Rl5 := fun r => if r = nr then x else rs r
def pRls (b : Nat → Nat) (n : Nat) : Nat → Nat → Nat → (Nat → Rl5) → Nat ⊕ (Nat × (Nat → Rl5))
  | 0, e, _, _ => .inl e
  | f + 1, e, nr, rs => if tk b n e = 30000 then .inr (nr, rs) else (match pRl b n nr e with
    | .inl g => .inl g
    | .inr p => pRls b n f p.1 (nr + 1) (rup rs nr p.2))
def rcl (rs : Nat → Rl5) (r : Nat) : List Sp3 := (rs r).2.2.2.1
def rrw (rs : Nat → Rl5) (r : Nat) : List Sp3 := (rs r).2.2.2.2
theorem stR_c {f g : Nat → List Sp3} : ∀ r, (∀ i, i < r → f i = g i) → stR f r = stR g r
  | 0, _ => rfl
  | r + 1, h => by rw [stR, stR, stR_c r (fun i hi => h i (by omega)), h r (by omega)]
theorem tkR_c {f g : Nat → List Sp3} : ∀ r, (∀ i, i < r → f i = g i) → tkR f r = tkR g r
  | 0, _ => rfl
  | r + 1, h => by rw [tkR, tkR, tkR_c r (fun i hi => h i (by omega)), h r (by omega)]
theorem rup_o {rs : Nat → Rl5} {nr r : Nat} {x : Rl5} (h : r < nr) : rup rs nr x r = rs r := if_neg (by omega)
theorem rup_n {rs : Nat → Rl5} {nr : Nat} {x : Rl5} : rup rs nr x nr = x := if_pos rfl
theorem stR_up {rs : Nat → Rl5} {nr r : Nat} {x : Rl5} (h : r ≤ nr) : stR (rcl (rup rs nr x)) r = stR (rcl rs) r := stR_c r fun i hi => by rw [rcl, rup_o (by omega)]; rfl
theorem tkR_up {rs : Nat → Rl5} {nr r : Nat} {x : Rl5} (h : r ≤ nr) : tkR (rrw (rup rs nr x)) r = tkR (rrw rs) r := tkR_c r fun i hi => by rw [rrw, rup_o (by omega)]; rfl
theorem stR_n {rs : Nat → Rl5} {nr : Nat} {x : Rl5} : stR (rcl (rup rs nr x)) (nr + 1) = stR (rcl rs) nr + x.2.2.2.1.length := by
  rw [stR, stR_up (Nat.le_refl nr), rcl, rup_n]
theorem tkR_n {rs : Nat → Rl5} {nr : Nat} {x : Rl5} : tkR (rrw (rup rs nr x)) (nr + 1) = tkR (rrw rs) nr + (tks x.2.2.2.2).length := by
  rw [tkR, tkR_up (Nat.le_refl nr), rrw, rup_n]
theorem stR_mono (f : Nat → List Sp3) : ∀ {r s : Nat}, r ≤ s → stR f r ≤ stR f s := by
  intro r s h
  induction s with
  | zero => rw [Nat.le_zero.mp h]; exact Nat.le_refl _
  | succ s ih =>
    by_cases q : r = s + 1
    · rw [q]; exact Nat.le_refl _
    · rw [stR]; have := ih (by omega); omega
theorem tkR_mono (f : Nat → List Sp3) : ∀ {r s : Nat}, r ≤ s → tkR f r ≤ tkR f s := by
  intro r s h
  induction s with
  | zero => rw [Nat.le_zero.mp h]; exact Nat.le_refl _
  | succ s ih =>
    by_cases q : r = s + 1
    · rw [q]; exact Nat.le_refl _
    · rw [tkR]; have := ih (by omega); omega
section RLS
variable {J : Sh} {R : Rw} {I : Iw} {b : Nat → Nat} {n : Nat}
def GdA (nr : Nat) (rs : Nat → Rl5) : Prop := nr ≤ 8 ∧ ∀ r, r < nr → GdR (rs r)
theorem GdA_up {nr : Nat} {rs : Nat → Rl5} {x : Rl5} (h : GdA nr rs) (h8 : nr < 8) (hx : GdR x) : GdA (nr + 1) (rup rs nr x) := ⟨h8, fun r hr => by
  by_cases q : r = nr
  · rw [q, rup_n]; exact hx
  · rw [rup_o (by omega)]; exact h.2 r (by omega)⟩
def CRs (I : Iw) (nr : Nat) (rs : Nat → Rl5) : Prop := I 37 0 = nI nr ∧ I 37 4 = nI (stR (rcl rs) nr) ∧ ∀ r, r < nr → I 38 r = nI (rs r).1 ∧ I 39 r = chN (rs r).2.1 (rs r).2.2.1 ∧ I 40 r = nI (stR (rcl rs) (r + 1)) ∧ Sps I (stR (rcl rs) r) (rcl rs r)
theorem pRl_8 {nr e : Nat} {p : Nat × Rl5} (h : pRl b n nr e = .inr p) : nr < 8 := by
  apply Decidable.byContradiction
  intro q
  rw [pRl, if_pos (Or.inl (by omega))] at h
  cases h
theorem q_23 (hR : Lay R) : ∀ (fl f : Nat) (I : Iw) (k e nr : Nat) (rs : Nat → Rl5), nr + fl = 9 → fl < f → CSt I b n k e (stR (rcl rs) nr) → CRs I nr rs → 5 * stR (rcl rs) nr ≤ 2 * e → GdA nr rs →
    ∃ I', frQ I I' ∧ (∀ g, pRls b n fl e nr rs = .inl g → f_X3_readInto_23 (S0 ++ J) R f I 33 8 (nI nr) = some (I', -100 - nI (skp b n g))) ∧
      ∀ p, pRls b n fl e nr rs = .inr p → f_X3_readInto_23 (S0 ++ J) R f I 33 8 (nI nr) = f_X3_readInto_80 (S0 ++ J) R I' 33 8 ∧ CRs I' p.1 p.2 ∧ GdA p.1 p.2 ∧ 5 * stR (rcl p.2) p.1 ≤ 2 * n
  | 0, f, I, k, e, nr, rs, hfl, hf, hC, hS, h5, hG => absurd hG.1 (by omega)
  | fl + 1, f, I, k, e, nr, rs, hfl, hf, hC, hS, h5, hG => by
    obtain ⟨f, rfl⟩ := Nat.exists_eq_succ_of_ne_zero (n := f) (by omega)
    have he := hC.1.2.1
    have ht := tk_le (b := b) (n := n) e
    have h8 := hG.1
    have hd : f_X3_readInto_23 (S0 ++ J) R (f + 1) I 33 8 (nI nr) = (if nI (tk b n e) = nI 30000 then f_X3_readInto_80 (S0 ++ J) R I 33 8 else bd (f_X3_readRule (S0 ++ J) R I 33) (fun r16 => (if r16.2 = 0 then (if (r16.1 33 4) ≤ (r16.1 33 5) then some (r16.1, (-100) - (0)) else rl (R 33 3) (fun b19 => gp (aok (S0 ++ J) 20 b19 (r16.1 33 5)) (some (r16.1, (-100) - (r16.1 b19 (r16.1 33 5).toNatClampNeg))))) else f_X3_readInto_23 (S0 ++ J) R f r16.1 33 8 (nI nr + (1))))) := by
      rw [f_X3_readInto_23, if_neg (by show ¬ nI 8 < nI nr; rw [n_lt (by omega) (by omega)]; omega), so_33, gp1, q_peek hR hC.1, bd1]; rfl
    rw [hd, pRls]
    by_cases qe : tk b n e = 30000
    · rw [if_pos (show nI (tk b n e) = nI 30000 by rw [qe]), if_pos qe]
      exact ⟨I, fun _ _ _ _ => rfl, fun g hg => (by cases hg), fun p hp => (by cases hp; exact ⟨rfl, hS, hG, by have := hC.1.2.1; show 5 * stR (rcl rs) nr ≤ 2 * n; omega⟩)⟩
    · rw [if_neg (show ¬ nI (tk b n e) = nI 30000 by rw [n_eq (by omega) (by omega)]; exact qe), if_neg qe]
      obtain ⟨I2, r2, e2, f2, m2⟩ := q_rule (J := J) hR hC hS.1 h8 h5
      have P := pRl_ok (b := b) (n := n) (nr := nr) he
      rw [e2, bd1]
      simp only
      cases hge : pRl b n nr e with
      | inl g =>
        rw [hge] at m2
        obtain ⟨m3, k', s', m4⟩ := m2
        have tt := At_tk m4.1
        obtain ⟨hk, hle, hn, i5, r, hr, _, i4⟩ := m4.1
        have hl := TL_len (b := b) hr hle
        refine ⟨I2, f2, fun g' hg' => ?_, fun p hp => (by cases hp)⟩
        cases hg'
        rw [m3, if_pos rfl, i4, i5, if_neg (by rw [n_le (by omega) (by omega)]; omega), ly_33_3 hR, rl1, ao_36, n_in (by omega) (by omega), gp1, nI_clamp (by omega), tt.2]
      | inr p =>
        rw [hge] at m2
        obtain ⟨a1, ⟨k', a2⟩, a3, a4, a5, a6, a7, a8, a9⟩ := m2
        obtain ⟨b1, b2, b3, b4, b5⟩ := P.2 p hge
        have n8 := pRl_8 hge
        have hs : stR (rcl (rup rs nr p.2)) (nr + 1) = stR (rcl rs) nr + p.2.2.2.2.1.length := stR_n
        have hSn : CRs I2 (nr + 1) (rup rs nr p.2) := by
          refine ⟨a3, by rw [hs]; exact a2.2.1, fun r hr => ?_⟩
          by_cases q : r = nr
          · rw [q, hs, stR_up (Nat.le_refl nr), rcl, rup_n]
            exact ⟨a4, a5, a6, a7⟩
          · have c := hS.2.2 r (by omega)
            have d := a9 r (by omega)
            have mo := stR_mono (rcl rs) (show r + 1 ≤ nr by omega)
            have sr : stR (rcl rs) (r + 1) = stR (rcl rs) r + (rs r).2.2.2.1.length := rfl
            have sq : (rcl rs r).length = (rs r).2.2.2.1.length := rfl
            rw [stR_up (show r + 1 ≤ nr by omega), stR_up (show r ≤ nr by omega), rup_o (show r < nr by omega), rcl, rup_o (show r < nr by omega)]
            exact ⟨d.1.trans c.1, d.2.1.trans c.2.1, d.2.2.trans c.2.2.1, Sps_fr _ _ (fun j hj => a8 j (by omega)) c.2.2.2⟩
        obtain ⟨I3, g1, g2, g3⟩ := q_23 hR fl f I2 k' p.1 (nr + 1) (rup rs nr p.2) (by omega) (by omega) (by rw [hs]; exact a2) hSn (by rw [hs]; omega) (GdA_up hG n8 b3)
        have hc : (if r2 = 0 then (if (I2 33 4) ≤ (I2 33 5) then some (I2, (-100 : Int32) - (0)) else rl (R 33 3) (fun b19 => gp (aok (S0 ++ J) 20 b19 (I2 33 5)) (some (I2, (-100) - (I2 b19 (I2 33 5).toNatClampNeg))))) else f_X3_readInto_23 (S0 ++ J) R f I2 33 8 (nI nr + (1))) = f_X3_readInto_23 (S0 ++ J) R f I2 33 8 (nI (nr + 1)) := by
          rw [a1, if_neg (by decide), show (1 : Int32) = nI 1 from rfl, n_add]
        rw [hc]
        exact ⟨I3, frQ_t f2 g1, g2, g3⟩
def MRs (I : Iw) (nr : Nat) (rs : Nat → Rl5) : Prop := ∀ r, r < nr → I 73 r = nI (tkR (rrw rs) r) ∧ I 74 r = nI (rs r).1 ∧ I 75 r = nI (rs r).2.1 ∧ ((rs r).2.1 ≠ 2 → I 76 r = nI (rs r).2.2.1) ∧ Tkc I (tkR (rrw rs) r) (tks (rrw rs r))
theorem m_26 (hR : Lay R) : ∀ (fl f : Nat) (I : Iw) (e nr : Nat) (rs : Nat → Rl5), nr + fl = 9 → fl < f → RSt I b n e 0 (tkR (rrw rs) nr) → MRs I nr rs → tkR (rrw rs) nr ≤ e → nr ≤ 8 →
    ∃ I' nr', f_X12_rules_26 (S0 ++ J) R f I 65 (nI nr) = f_X12_rules_51 (S0 ++ J) R I' 65 (nI nr') ∧ frG I I' ∧ (∀ g, pRls b n fl e nr rs = .inl g → FSt I' b n g) ∧
      ∀ p, pRls b n fl e nr rs = .inr p → nr' = p.1 ∧ I' 65 9 = 0 ∧ I' 65 12 = nI (tkR (rrw p.2) p.1) ∧ MRs I' p.1 p.2 ∧ tkR (rrw p.2) p.1 ≤ n
  | 0, f, I, e, nr, rs, hfl, hf, hC, hS, h5, h8 => absurd h8 (by omega)
  | fl + 1, f, I, e, nr, rs, hfl, hf, hC, hS, h5, h8 => by
    obtain ⟨f, rfl⟩ := Nat.exists_eq_succ_of_ne_zero (n := f) (by omega)
    have he := hC.2.1
    have h3 := so_3 b n e
    have n8 : I 65 8 = nI (so b n e) := hC.2.2.1.2.2
    rw [f_X12_rules_26, so_65, gp1, hC.2.2.2.1, if_pos rfl, n8, pRls]
    by_cases qe : tk b n e = 30000
    · rw [tk_end.mp qe, if_pos (by decide), if_pos qe]
      exact ⟨I, nr, rfl, fun _ _ _ _ _ => rfl, fun g hg => (by cases hg), fun p hp => (by cases hp; exact ⟨rfl, hC.2.2.2.1, hC.2.2.2.2.2, hS, by show tkR (rrw rs) nr ≤ n; omega⟩)⟩
    · rw [if_neg (by show ¬ nI (so b n e) = nI 0; rw [n_eq (by omega) (by omega)]; exact fun z => qe (tk_end.mpr z)), if_neg qe]
      obtain ⟨I2, e2, f2, m2⟩ := m_rule (J := J) hR hC h8 h5
      have P := pRl_ok (b := b) (n := n) (nr := nr) he
      rw [e2, bd1]
      cases hge : pRl b n nr e with
      | inl g =>
        rw [hge] at m2
        have m2 : FSt I2 b n g := m2
        refine ⟨I2, nr + 1, ?_, f2, fun g' hg' => (by cases hg'; exact m2), fun p hp => (by cases hp)⟩
        obtain ⟨f, rfl⟩ := Nat.exists_eq_succ_of_ne_zero (n := f) (by omega)
        rw [f_X12_rules_26, so_65, gp1, m2.2.2.2, if_neg (by decide), show (1 : Int32) = nI 1 from rfl, n_add]
      | inr p =>
        rw [hge] at m2
        obtain ⟨a1, a2, a3, a4, a5, a6, a7, a8⟩ := m2
        obtain ⟨b1, b2, b3, b4, b5⟩ := P.2 p hge
        have q8 := pRl_8 hge
        have hs : tkR (rrw (rup rs nr p.2)) (nr + 1) = tkR (rrw rs) nr + (tks p.2.2.2.2.2).length := tkR_n
        have hSn : MRs I2 (nr + 1) (rup rs nr p.2) := by
          intro r hr
          by_cases q : r = nr
          · rw [q, tkR_up (Nat.le_refl nr), rrw, rup_n]
            exact ⟨a4, a5, a6, a7, a2⟩
          · have c := hS r (by omega)
            have d := a8 r (by omega)
            have mo := tkR_mono (rrw rs) (show r + 1 ≤ nr by omega)
            have sr : tkR (rrw rs) (r + 1) = tkR (rrw rs) r + (tks (rs r).2.2.2.2).length := rfl
            have sq : (tks (rrw rs r)).length = (tks (rs r).2.2.2.2).length := rfl
            rw [tkR_up (show r ≤ nr by omega), rup_o (show r < nr by omega), rrw, rup_o (show r < nr by omega)]
            exact ⟨d.1.trans c.1, d.2.1.trans c.2.1, d.2.2.1.trans c.2.2.1, fun z => d.2.2.2.trans (c.2.2.2.1 z), Tkc_fr _ _ (fun j hj => a3 j (by omega)) c.2.2.2.2⟩
        obtain ⟨I3, nr', g1, g2, g3, g4⟩ := m_26 hR fl f I2 p.1 (nr + 1) (rup rs nr p.2) (by omega) (by omega) (by rw [hs]; exact a1) hSn (by rw [hs]; omega) q8
        refine ⟨I3, nr', ?_, frG_t f2 g2, g3, g4⟩
        rw [show (1 : Int32) = nI 1 from rfl, n_add, g1]
end RLS
