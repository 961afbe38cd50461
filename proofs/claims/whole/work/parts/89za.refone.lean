/-! THE REFERENCE READS A CONDITION: comparisons, brackets, nots, ands, ors -/
section ROC
variable {J : Sh} {R : Rw} {I : Iw} {b : Nat → Nat} {n : Nat}
def isCs (t : Nat) : Bool := decide (t = 20060) || (decide (t = 20061) || decide (t = 20062))
theorem isCs_t {t : Nat} : isCs t = true ↔ (t = 20060 ∨ t = 20061 ∨ t = 20062) := by unfold isCs; simp
theorem m_136h (hR : Lay R) (hT : TMb I b n) {g : Sh → Rw → Iw → Nat → Option Iw} {e : Nat} {x : Int32} (hS : RS I b n e) : f_X12_one_136 g (S0 ++ J) R I 65 x = f_X12_one_170 g (S0 ++ J) R I 65 x (yn (isCs (tk b n e))) 65 := by
  rw [f_X12_one_136, so_65, gp1, s_60 hR hT hS, bd1]
  unfold isCs
  by_cases o1 : tk b n e = 20060
  · rw [decide_eq_true o1, if_neg (by decide)]; rfl
  · rw [decide_eq_false o1, if_pos (by decide), s_61 hR hT hS, bd1]
    by_cases o2 : tk b n e = 20061
    · rw [decide_eq_true o2, if_neg (by decide)]; rfl
    · rw [decide_eq_false o2, if_pos (by decide), s_62 hR hT hS, bd1]
      by_cases o3 : tk b n e = 20062
      · rw [decide_eq_true o3, if_neg (by decide)]; rfl
      · rw [decide_eq_false o3, if_pos (by decide)]; rfl
theorem m_136F (hR : Lay R) {g : Sh → Rw → Iw → Nat → Option Iw} {e : Nat} {x : Int32} (h : FSt I b n e) : ∃ I', f_X12_one_136 g (S0 ++ J) R I 65 x = some I' ∧ frR I I' ∧ FSt I' b n e := by
  obtain ⟨I1, e1, e2, e3, e4⟩ := m_mustF (J := J) (R := R) (x := yn (isCs (tk b n e))) h
  refine ⟨I1, ?_, e3, e2⟩
  rw [m_136h hR h.1 h.2.2.1, f_X12_one_170, so_65, gp1, e1, bd1, gp1, m_valueF e2, bd1, m_tellsF e2, bd1]
theorem m_136 (hR : Lay R) {g : Sh → Rw → Iw → Nat → Option Iw} {e m : Nat} {d x : Int32} (h : RSt I b n e d m) (hm : m + 1 ≤ e) : ∃ I', f_X12_one_136 g (S0 ++ J) R I 65 x = some I' ∧ frR I I' ∧
    (isCs (tk b n e) = true → isVal (tk b n (nx b n e)) = true → RSt I' b n (nx b n (nx b n e)) d (m + 2) ∧ I' 70 m = nI (vTok (tk b n (nx b n e))) ∧ I' 70 (m + 1) = x ∧ sm70 I I' m) ∧
    (isCs (tk b n e) = true → isVal (tk b n (nx b n e)) = false → FSt I' b n (nx b n e)) ∧ (isCs (tk b n e) = false → FSt I' b n e) := by
  have hn := h.1.1
  have he := h.2.1
  have hx := nx_le (b := b) he
  have hs1 := skp_le (b := b) he
  rw [m_136h hR h.1 h.2.2.1, f_X12_one_170, so_65, gp1]
  cases o : isCs (tk b n e) with
  | false =>
    obtain ⟨I1, e1, e2, e3, e4⟩ := m_must0 (J := J) (R := R) h
    refine ⟨I1, ?_, e3, fun z => (by cases z), fun z => (by cases z), fun _ => e2⟩
    rw [show f_X12_must (S0 ++ J) R I 65 (yn false) = some I1 from e1, bd1, gp1, m_valueF e2, bd1, m_tellsF e2, bd1]
  | true =>
    have ot := isCs_t.mp o
    have hx1 := hx.2.2 (by omega)
    obtain ⟨I1, e1, e2, e3, e4⟩ := m_must1 (J := J) hR h
    have hx2 := nx_le (b := b) hx.2.1
    have hs2 := skp_le (b := b) hx.2.1
    obtain ⟨I2, g1, g2, g3, g4⟩ := m_value (J := J) hR e2 (by omega)
    rw [show f_X12_must (S0 ++ J) R I 65 (yn true) = some I1 from e1, bd1, gp1, g1, bd1]
    cases v : isVal (tk b n (nx b n e)) with
    | false =>
      have F := g4 v
      refine ⟨I2, by rw [m_tellsF F, bd1], frR_t e3 g2, fun _ z => (by cases z), fun _ _ => F, fun z => (by cases z)⟩
    | true =>
      obtain ⟨k1, k2, k3⟩ := g3 v
      have hv := vTok_lt v
      have hx3 := hx2.2.2 (by omega)
      obtain ⟨t1, t2, t3, t4, t5⟩ := m_tells (J := J) (x := x) hR k1 (by omega)
      refine ⟨_, by rw [t1, bd1], frR_t e3 (frR_t g2 t3), fun _ _ => ⟨t2, (t4 m (by omega)).trans k2, t5, fun j hj => by rw [t4 j (by omega), k3 j hj, e4 j]⟩, fun _ z => (by cases z), fun z => (by cases z)⟩
/-- a comparison, behind its brackets and nots -/
def tailC (g : Sh → Rw → Iw → Nat → Option Iw) (S : Sh) (R : Rw) (I : Iw) : Option Iw := bd (f_X12_value S R I 65) (fun r7 => bd (f_X12_isSign S R r7 65 (60)) (fun r8 => (if r8 = 0 then bd (f_X12_isSign S R r7 65 (61)) (fun r10 => (if r10 = 0 then f_X12_one_136 g S R r7 65 (20004) else f_X12_one_136 g S R r7 65 (20003))) else f_X12_one_136 g S R r7 65 (20002))))
theorem m_tailh (hR : Lay R) {g : Sh → Rw → Iw → Nat → Option Iw} {e : Nat} (hT : TMb I b n) (hS : RS I b n e) : bd (f_X12_isSign (S0 ++ J) R I 65 (60)) (fun r8 => (if r8 = 0 then bd (f_X12_isSign (S0 ++ J) R I 65 (61)) (fun r10 => (if r10 = 0 then f_X12_one_136 g (S0 ++ J) R I 65 (20004) else f_X12_one_136 g (S0 ++ J) R I 65 (20003))) else f_X12_one_136 g (S0 ++ J) R I 65 (20002))) = f_X12_one_136 g (S0 ++ J) R I 65 (if tk b n e = 20060 then nI 20002 else if tk b n e = 20061 then nI 20003 else nI 20004) := by
  rw [s_60 hR hT hS, bd1]
  by_cases o1 : tk b n e = 20060
  · rw [decide_eq_true o1, if_neg (by decide), if_pos o1]; rfl
  · rw [decide_eq_false o1, if_pos (by decide), s_61 hR hT hS, bd1, if_neg o1]
    by_cases o2 : tk b n e = 20061
    · rw [decide_eq_true o2, if_neg (by decide), if_pos o2]; rfl
    · rw [decide_eq_false o2, if_pos (by decide), if_neg o2]; rfl
theorem m_tail (hR : Lay R) {g : Sh → Rw → Iw → Nat → Option Iw} {e m : Nat} {d : Int32} (h : RSt I b n e d m) (hm : m + 1 ≤ e) : Rre b n d m I (tailC g (S0 ++ J) R I) (pCmp b n e) := by
  have hn := h.1.1
  have he := h.2.1
  have hx := nx_le (b := b) he
  have hs1 := skp_le (b := b) he
  obtain ⟨I1, e1, e2, e3, e4⟩ := m_value (J := J) hR h (by omega)
  rw [tailC, e1, bd1, pCmp]
  cases v : isVal (tk b n e) with
  | false =>
    have F := e4 v
    rw [m_tailh hR F.1 F.2.2.1, if_neg (show ¬ (false = true) by decide)]
    obtain ⟨I2, g1, g2, g3⟩ := m_136F (J := J) (g := g) (x := if tk b n e = 20060 then nI 20002 else if tk b n e = 20061 then nI 20003 else nI 20004) hR F
    exact ⟨I2, g1, frR_t e2 g2, g3⟩
  | true =>
    obtain ⟨k1, k2, k3⟩ := e3 v
    have hv := vTok_lt v
    have hx1 := hx.2.2 (by omega)
    rw [m_tailh hR k1.1 k1.2.2.1, if_pos rfl]
    obtain ⟨I2, g1, g2, g3, g4, g5⟩ := m_136 (J := J) (g := g) (x := if tk b n (nx b n e) = 20060 then nI 20002 else if tk b n (nx b n e) = 20061 then nI 20003 else nI 20004) hR k1 (by omega)
    refine ⟨I2, g1, frR_t e2 g2, ?_⟩
    cases o : isCs (tk b n (nx b n e)) with
    | false =>
      rw [if_neg (fun z => by rw [isCs_t.mpr z] at o; cases o)]
      exact g5 o
    | true =>
      have ot := isCs_t.mp o
      rw [if_pos ot]
      cases v2 : isVal (tk b n (nx b n (nx b n e))) with
      | false => exact g4 o v2
      | true =>
        obtain ⟨q1, q2, q3, q4⟩ := g3 o v2
        have hop : (if tk b n (nx b n e) = 20060 then nI 20002 else if tk b n (nx b n e) = 20061 then nI 20003 else nI 20004) = nI (tk b n (nx b n e) - 58) := by
          rcases ot with z | z | z <;> rw [z] <;> rfl
        have htk : tks [(tk b n (nx b n e) - 58, vTok (tk b n e), vTok (tk b n (nx b n (nx b n e))))] = [vTok (tk b n e), vTok (tk b n (nx b n (nx b n e))), tk b n (nx b n e) - 58] := by
          unfold tks
          rw [List.flatMap_cons, List.flatMap_nil, List.append_nil]
          simp only
          rw [if_pos (by omega)]
        rw [if_pos rfl]
        show RSt I2 b n _ d (m + (tks [(tk b n (nx b n e) - 58, vTok (tk b n e), vTok (tk b n (nx b n (nx b n e))))]).length) ∧ Tkc I2 m (tks [(tk b n (nx b n e) - 58, vTok (tk b n e), vTok (tk b n (nx b n (nx b n e))))]) ∧ sm70 I I2 m
        rw [htk]
        exact ⟨q1, ⟨(q4 m (by omega)).trans k2, q2, q3.trans hop, trivial⟩, fun j hj => (q4 j (by omega)).trans (k3 j hj)⟩
def Rdm (b : Nat → Nat) (n : Nat) (d : Int32) (F : Nat) (G : Iw → Option Iw) (g : Nat → PRs) : Prop := ∀ (I : Iw) (e m : Nat), RSt I b n e d m → m + 1 ≤ e → n ≤ e + 3 * F → Rre b n d m I (G I) (g e)
def Rdf (b : Nat → Nat) (n : Nat) (G : Iw → Option Iw) : Prop := ∀ (I : Iw) (e : Nat), FSt I b n e → G I = some I
theorem m_lp (hR : Lay R) {w op h i a F : Nat} {d : Int32} {g : Nat → PRs} {G : Iw → Option Iw} {L : Nat → Iw → Option Iw}
    (hL : ∀ f I, L (f + 1) I = gp (sok (S0 ++ J) 65 12 34) ((if (I 65 9) = 0 then bd (f_X12_isWord (S0 ++ J) R I 65 a) (fun r5 => (if r5 = 0 then some I else bd (f_X12_must (S0 ++ J) R I 65 (1)) (fun r7 => bd (G r7) (fun r8 => bd (f_X12_tells (S0 ++ J) R r8 65 (nI op)) (fun r9 => L f r9))))) else some I)))
    (ha : a < 19) (ha1 : 1 ≤ a) (hwa : wn a = i) (hw : w = 10000 + i) (ho : op = 20000 ∨ op = 20001) (hg : OkR b n h g) (hG : Rdm b n d F G g) :
    ∀ (r f : Nat) (I : Iw) (e m : Nat) (c dd : List Sp3), n ≤ e + r → r + 1 < f → RSt I b n e d (m + (tks dd).length) → m + (tks dd).length + 1 ≤ e → n ≤ e + 3 * F → Tkc I m (tks dd) → Rre b n d m I (L f I) (pLp b n w op g r e c dd)
  | 0, f, I, e, m, c, dd, hr, hf, hC, h5, hF, hS => by
    obtain ⟨f, rfl⟩ := Nat.exists_eq_succ_of_ne_zero (n := f) (by omega)
    have he := hC.2.1
    have hs := skp_le (b := b) he
    have ht : tk b n e = 30000 := by rw [tk, tkP, if_pos (by omega)]
    have hi := wo_n a ha
    rw [hL, so_65, gp1, hC.2.2.2.1, if_pos rfl, m_word hR hC.1 he hC.2.2.1 ha ha1, bd1, decide_eq_false (by omega), if_pos (by decide)]
    exact ⟨I, rfl, frR_r I, hC, hS, fun _ _ => rfl⟩
  | r + 1, f, I, e, m, c, dd, hr, hf, hC, h5, hF, hS => by
    obtain ⟨f, rfl⟩ := Nat.exists_eq_succ_of_ne_zero (n := f) (by omega)
    have he := hC.2.1
    have hn := hC.1.1
    have hi := wo_n a ha
    rw [hL, so_65, gp1, hC.2.2.2.1, if_pos rfl, m_word hR hC.1 he hC.2.2.1 ha ha1, bd1, pLp, hwa, ← hw]
    by_cases q : tk b n e = w
    · have hx := nx_le (b := b) he
      have hs1 := skp_le (b := b) he
      have hx1 := hx.2.2 (by omega)
      obtain ⟨I1, e1, e2, e3, e4⟩ := m_must1 (J := J) hR hC
      obtain ⟨I2, g1, g2, g3⟩ := hG I1 _ _ e2 (by omega) (by omega)
      have G2 := hg (nx b n e) hx.2.1
      rw [decide_eq_true q, if_neg (by decide), if_pos q, e1, bd1, g1, bd1]
      cases hge : g (nx b n e) with
      | inl ef =>
        rw [hge] at g3
        have g3 : FSt I2 b n ef := g3
        refine ⟨I2, ?_, frR_t e3 g2, g3⟩
        rw [m_tellsF g3, bd1]
        obtain ⟨f, rfl⟩ := Nat.exists_eq_succ_of_ne_zero (n := f) (by omega)
        rw [hL, so_65, gp1, g3.2.2.2, if_neg (by decide)]
      | inr p =>
        rw [hge] at g3
        obtain ⟨k1, k2, k3⟩ := g3
        have H := G2.2 p hge
        have H2 := H.2.2.2.1
        obtain ⟨t1, t2, t3, t4, t5⟩ := m_tells (J := J) (x := nI op) hR k1 (by omega)
        have hlen : (tks (dd ++ p.2.2 ++ [oT op])).length = (tks dd).length + (tks p.2.2).length + 1 := by
          rw [tks_app, tks_app, List.length_append, List.length_append]
          rcases ho with z | z <;> rw [z] <;> rfl
        have hto : tks [oT op] = [op] := by rcases ho with z | z <;> rw [z] <;> rfl
        rw [t1, bd1]
        refine Rre_f (frR_t e3 (frR_t g2 t3)) (fun j hj => by rw [t4 j (by omega), k3 j (by omega), e4 j]) (m_lp hR hL ha ha1 hwa hw ho hg hG r f _ p.1 m (c ++ p.2.1 ++ [oT op]) (dd ++ p.2.2 ++ [oT op]) (by omega) (by omega) ?_ (by rw [hlen]; omega) (by omega) ?_)
        · rw [hlen, show m + ((tks dd).length + (tks p.2.2).length + 1) = m + (tks dd).length + (tks p.2.2).length + 1 by omega]; exact t2
        · rw [tks_app, tks_app, hto]
          refine Tkc_app _ _ _ (Tkc_app _ _ _ ?_ ?_) ⟨?_, trivial⟩
          · refine Tkc_fr _ m (fun j hj => ?_) hS
            rw [t4 j (by omega), k3 j (by omega), e4 j]
          · exact Tkc_fr _ _ (fun j hj => t4 j hj) k2
          · rw [List.length_append, ← Nat.add_assoc]; exact t5
    · rw [decide_eq_false q, if_pos (by decide), if_neg q]
      exact ⟨I, rfl, frR_r I, hC, hS, fun _ _ => rfl⟩
theorem m_all (hR : Lay R) {h F : Nat} {d : Int32} {g : Nat → PRs} {G : Sh → Rw → Iw → Nat → Option Iw} (hg : OkR b n h g) (hG : Rdm b n d F (fun I => G (S0 ++ J) R I 65) g) : Rdm b n d F (fun I => f_X12_all G (S0 ++ J) R I 65) (pAll b n g) := by
  intro I e m hC h5 hF
  have hn := hC.1.1
  have G2 := hg e hC.2.1
  obtain ⟨I2, e2, f2, m2⟩ := hG I e m hC h5 hF
  have e2 : G (S0 ++ J) R I 65 = some I2 := e2
  show Rre b n d m I (f_X12_all G (S0 ++ J) R I 65) _
  rw [f_X12_all, so_65, gp1, e2, bd1, pAll, pSeq]
  cases hge : g e with
  | inl ef =>
    rw [hge] at m2
    have m2 : FSt I2 b n ef := m2
    refine ⟨I2, ?_, f2, m2⟩
    rw [f_X12_all_4, so_65, gp1, m2.2.2.2, if_neg (by decide)]
  | inr p =>
    rw [hge] at m2
    obtain ⟨k1, k2, k3⟩ := m2
    have H := G2.2 p hge
    have H2 := H.2.2.2.1
    exact Rre_f f2 k3 (m_lp (L := fun f I => f_X12_all_4 G (S0 ++ J) R f I 65) (G := fun I => G (S0 ++ J) R I 65) (w := 10008) (op := 20001) (a := 14) hR (fun _ _ => rfl) (by decide) (by decide) rfl rfl (Or.inr rfl) hg hG 200 512 I2 p.1 m p.2.1 p.2.2 (by omega) (by omega) k1 (by omega) (by omega) k2)
theorem m_cond (hR : Lay R) {h F : Nat} {d : Int32} {g : Nat → PRs} {G : Sh → Rw → Iw → Nat → Option Iw} (hg : OkR b n h g) (hG : Rdm b n d F (fun I => G (S0 ++ J) R I 65) g) : Rdm b n d F (fun I => f_X12_condition G (S0 ++ J) R I 65) (pCond b n g) := by
  intro I e m hC h5 hF
  have hn := hC.1.1
  have hA := m_all hR hg hG
  have hgA : OkR b n (h + 1) (pAll b n g) := pSeq_ok (i := 8) rfl (by decide) (by decide) (Or.inr rfl) hg
  have G2 := hgA e hC.2.1
  obtain ⟨I2, e2, f2, m2⟩ := hA I e m hC h5 hF
  have e2 : f_X12_all G (S0 ++ J) R I 65 = some I2 := e2
  show Rre b n d m I (f_X12_condition G (S0 ++ J) R I 65) _
  rw [f_X12_condition, so_65, gp1, e2, bd1, pCond, pSeq]
  cases hge : pAll b n g e with
  | inl ef =>
    rw [hge] at m2
    have m2 : FSt I2 b n ef := m2
    refine ⟨I2, ?_, f2, m2⟩
    rw [f_X12_condition_4, so_65, gp1, m2.2.2.2, if_neg (by decide)]
  | inr p =>
    rw [hge] at m2
    obtain ⟨k1, k2, k3⟩ := m2
    have H := G2.2 p hge
    have H2 := H.2.2.2.1
    exact Rre_f f2 k3 (m_lp (L := fun f I => f_X12_condition_4 G (S0 ++ J) R f I 65) (G := fun I => f_X12_all G (S0 ++ J) R I 65) (w := 10007) (op := 20000) (a := 15) hR (fun _ _ => rfl) (by decide) (by decide) rfl rfl (Or.inl rfl) hgA hA 200 512 I2 p.1 m p.2.1 p.2.2 (by omega) (by omega) k1 (by omega) (by omega) k2)
theorem m_condF {G : Sh → Rw → Iw → Nat → Option Iw} (hG : Rdf b n (fun I => G (S0 ++ J) R I 65)) : Rdf b n (fun I => f_X12_condition G (S0 ++ J) R I 65) := by
  intro I e h
  have e1 : G (S0 ++ J) R I 65 = some I := hG I e h
  show f_X12_condition G (S0 ++ J) R I 65 = some I
  rw [f_X12_condition, so_65, gp1, f_X12_all, so_65, gp1, e1, bd1, f_X12_all_4, so_65, gp1, h.2.2.2, if_neg (by decide), bd1, f_X12_condition_4, so_65, gp1, h.2.2.2, if_neg (by decide)]
theorem m_oneF (f : Nat) : Rdf b n (fun I => f_X12_one (f + 1) (S0 ++ J) R I 65) := by
  intro I e h
  show f_X12_one (f + 1) (S0 ++ J) R I 65 = some I
  rw [f_X12_one, f_X12_one_b, so_65, gp1, h.2.2.2, if_neg (by decide)]
end ROC
