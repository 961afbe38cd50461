/-! THE CLASS READS A CONDITION: ands, ors, nots, brackets -/
section CCD
variable {J : Sh} {R : Rw} {I : Iw} {b : Nat → Nat} {n : Nat}
/-- a reader of the class does as a pure one -/
def Rdr (J : Sh) (R : Rw) (b : Nat → Nat) (n : Nat) (G : Iw → Option (Iw × Int32)) (g : Nat → PRs) : Prop := ∀ (I : Iw) (k e s : Nat), CSt I b n k e s → 5 * s ≤ 2 * e → Cre b n s I (G I) (g e)
theorem q_lp (hR : Lay R) {w op h i : Nat} {g : Nat → PRs} {G : Iw → Option (Iw × Int32)} {F : Nat → Iw → Int32 → Int32 → Option (Iw × Int32)}
    (hF : ∀ f I x2 x3, F (f + 1) I x2 x3 = (if (200) ≤ x3 then gp (zok x2) (some (I, x2)) else (if x2 = 0 then gp (zok x2) (some (I, x2)) else gp (sok (S0 ++ J) 33 3 7) (bd (f_X3_peek (S0 ++ J) R I 33) (fun r8 => (if r8 = nI w then lt (up2 I 33 5 ((I 33 5) + (1))) (fun I11 => bd (G I11) (fun r12 => rl (R 33 6) (fun b13 => gp (sok (S0 ++ J) b13 5 8) (bd (f_X5_addStep (S0 ++ J) R r12.1 b13 (nI w) (0) (0)) (fun r15 => F f r15 r12.2 (x3 + (1))))))) else gp (zok x2) (some (I, x2))))))))
    (hw : w = 10000 + i) (hi : i < 18) (hl : 2 ≤ (wl.getD i []).length) (ho : op = 20000 ∨ op = 20001) (hwo : cSgn op = w) (hg : OkR b n h g) (hG : Rdr J R b n G g) :
    ∀ (r f : Nat) (I : Iw) (k e s : Nat) (c d : List Sp3), r ≤ 200 → r + 1 < f → CSt I b n k e (s + c.length) → 5 * (s + c.length) ≤ 2 * e → Sps I s c → Cre b n s I (F f I 1 (nI (200 - r))) (pLp b n w op g r e c d)
  | 0, f, I, k, e, s, c, d, hr, hf, hC, h5, hS => by
    obtain ⟨f, rfl⟩ := Nat.exists_eq_succ_of_ne_zero (n := f) (by omega)
    rw [hF, if_pos (by decide)]
    exact ⟨I, 1, rfl, frC_r I, rfl, ⟨k, hC⟩, hS, Sld_r I s⟩
  | r + 1, f, I, k, e, s, c, d, hr, hf, hC, h5, hS => by
    obtain ⟨f, rfl⟩ := Nat.exists_eq_succ_of_ne_zero (n := f) (by omega)
    have ht := tk_le (b := b) (n := n) e
    have he := hC.1.2.1
    have hn := hC.1.2.2.1
    rw [hF, if_neg (by show ¬ nI 200 ≤ nI (200 - (r + 1)); rw [n_le (by omega) (by omega)]; omega), if_neg (by decide), so_33, gp1, q_peek hR hC.1, bd1, pLp]
    by_cases q : tk b n e = w
    · have C1 := adv_C hC (by omega)
      have l1 := tk_len (b := b) he hi (by omega)
      have hx := nx_le (b := b) he
      have G1 := hG _ _ _ _ C1 (by omega)
      have G2 := hg (nx b n e) hx.2.1
      rw [if_pos (by rw [q]), if_pos q, q_adv hC, lt1]
      obtain ⟨I2, r2, e2, f2, m2⟩ := G1
      rw [e2, bd1, ly_33_6 hR, rl1, so_37, gp1, show nI (200 - (r + 1)) + 1 = nI (200 - r) by rw [show (1 : Int32) = nI 1 from rfl, n_add]; congr 1; omega]
      cases hge : g (nx b n e) with
      | inl ef =>
        rw [hge] at m2
        obtain ⟨m3, k', s', m4⟩ := m2
        obtain ⟨I3, s3, a1, a2, a3⟩ := q_addF (x := nI w) (y := 0) (z := 0) hR m4
        refine ⟨I3, 0, ?_, frC_t (adv_f k) (frC_t f2 a3), rfl, k', s3, a2⟩
        rw [a1, bd1, m3]
        obtain ⟨f, rfl⟩ := Nat.exists_eq_succ_of_ne_zero (n := f) (by omega)
        rw [hF]
        split
        · rfl
        · rfl
      | inr p =>
        rw [hge] at m2
        obtain ⟨m3, ⟨k', m4⟩, m5, m6⟩ := m2
        have g3 := G2.2 p hge
        have g4 := g3.2.2.1
        have hs : s + c.length + p.2.1.length < 128 := by omega
        have A := adS_C (x := nI w) (y := 0) (z := 0) m4 hs
        have hlen : (c ++ p.2.1 ++ [oT op]).length = c.length + p.2.1.length + 1 := by rw [List.length_append, List.length_append]; rfl
        rw [q_addS hR hs m4.2.1, bd1, m3]
        refine Cre_f (frC_t (adv_f k) (frC_t f2 A.2.1)) (Sld_t (adv_S k s) (Sld_t m6 A.2.2.1 (by omega)) (by omega)) (q_lp hR hF hw hi hl ho hwo hg hG r f _ k' p.1 s (c ++ p.2.1 ++ [oT op]) (d ++ p.2.2 ++ [oT op]) (by omega) (by omega) ?_ ?_ ?_)
        · rw [hlen, show s + (c.length + p.2.1.length + 1) = s + c.length + p.2.1.length + 1 by omega]; exact A.1
        · rw [hlen]; omega
        · refine Sps_app _ _ _ (Sps_app _ _ _ ?_ ?_) ⟨⟨?_, fun z => ?_⟩, trivial⟩
          · refine Sps_fr c s (fun j hj => ?_) hS
            exact Sld_t (adv_S k (s + c.length)) (Sld_t m6 A.2.2.1 (by omega)) (Nat.le_refl _) j hj
          · exact Sps_fr p.2.1 _ (fun j hj => A.2.2.1 j hj) m5
          · rw [List.length_append, ← Nat.add_assoc, A.2.2.2.1, ← hwo]; rfl
          · rcases ho with z2 | z2 <;> rw [z2] at z <;> cases z
    · rw [if_neg (by rw [n_eq (by omega) (by omega)]; exact q), if_neg q]
      exact ⟨I, 1, rfl, frC_r I, rfl, ⟨k, hC⟩, hS, Sld_r I s⟩
theorem q_all (hR : Lay R) {h : Nat} {g : Nat → PRs} {G : Sh → Rw → Iw → Nat → Int32 → Option (Iw × Int32)} {x : Int32} (hg : OkR b n h g) (hG : Rdr J R b n (fun I => G (S0 ++ J) R I 33 x) g) : Rdr J R b n (fun I => f_X3_readAll G (S0 ++ J) R I 33 x) (pAll b n g) := by
  intro I k e s hC h5
  have G1 := hG I k e s hC h5
  have G2 := hg e hC.1.2.1
  show Cre b n s I (f_X3_readAll G (S0 ++ J) R I 33 x) _
  obtain ⟨I2, r2, e2, f2, m2⟩ := G1
  have e2 : G (S0 ++ J) R I 33 x = some (I2, r2) := e2
  rw [f_X3_readAll, so_33, gp1, e2, bd1, pAll, pSeq]
  cases hge : g e with
  | inl ef =>
    rw [hge] at m2
    obtain ⟨m3, k', s', m4⟩ := m2
    refine ⟨I2, 0, ?_, f2, rfl, k', s', m4⟩
    rw [m3]; rfl
  | inr p =>
    rw [hge] at m2
    obtain ⟨m3, ⟨k', m4⟩, m5, m6⟩ := m2
    have g3 := G2.2 p hge
    have g4 := g3.2.2.1
    rw [m3]
    exact Cre_f f2 m6 (q_lp (F := fun f I x2 x3 => f_X3_readAll_8 G (S0 ++ J) R f I 33 x x2 x3) (G := fun I => G (S0 ++ J) R I 33 x) hR (fun _ _ _ _ => rfl) (w := 10008) (op := 20001) (i := 8) rfl (by decide) (by decide) (Or.inr rfl) rfl hg hG 200 512 I2 k' p.1 s p.2.1 p.2.2 (by omega) (by omega) m4 (by omega) m5)
theorem q_cond (hR : Lay R) {h : Nat} {g : Nat → PRs} {G : Sh → Rw → Iw → Nat → Int32 → Option (Iw × Int32)} {x : Int32} (hg : OkR b n h g) (hG : Rdr J R b n (fun I => G (S0 ++ J) R I 33 x) g) : Rdr J R b n (fun I => f_X3_readCondition G (S0 ++ J) R I 33 x) (pCond b n g) := by
  intro I k e s hC h5
  have hA := q_all hR hg hG
  have hgA : OkR b n (h + 1) (pAll b n g) := pSeq_ok (i := 8) rfl (by decide) (by decide) (Or.inr rfl) hg
  have G1 := hA I k e s hC h5
  have G2 := hgA e hC.1.2.1
  show Cre b n s I (f_X3_readCondition G (S0 ++ J) R I 33 x) _
  obtain ⟨I2, r2, e2, f2, m2⟩ := G1
  have e2 : f_X3_readAll G (S0 ++ J) R I 33 x = some (I2, r2) := e2
  rw [f_X3_readCondition, so_33, gp1, e2, bd1, pCond, pSeq]
  cases hge : pAll b n g e with
  | inl ef =>
    rw [hge] at m2
    obtain ⟨m3, k', s', m4⟩ := m2
    refine ⟨I2, 0, ?_, f2, rfl, k', s', m4⟩
    rw [m3]; rfl
  | inr p =>
    rw [hge] at m2
    obtain ⟨m3, ⟨k', m4⟩, m5, m6⟩ := m2
    have g3 := G2.2 p hge
    have g4 := g3.2.2.1
    rw [m3]
    exact Cre_f f2 m6 (q_lp (F := fun f I x2 x3 => f_X3_readCondition_8 G (S0 ++ J) R f I 33 x x2 x3) (G := fun I => f_X3_readAll G (S0 ++ J) R I 33 x) hR (fun _ _ _ _ => rfl) (w := 10007) (op := 20000) (i := 7) rfl (by decide) (by decide) (Or.inl rfl) rfl hgA hA 200 512 I2 k' p.1 s p.2.1 p.2.2 (by omega) (by omega) m4 (by omega) m5)
theorem q_118 (hR : Lay R) {G : Sh → Rw → Iw → Nat → Int32 → Option (Iw × Int32)} {k e s c : Nat} {cl : List Sp3} (hC : CSt I b n k e (s + cl.length)) (h5 : 5 * (s + cl.length) ≤ 2 * e) (hS : Sps I s cl) (d : List Sp3) : Cre b n s I (f_X3_readOne_118 G (S0 ++ J) R I 33 (yn (decide (c % 2 = 1)))) (.inr (e, cl ++ nts c, d)) := by
  have he := hC.1.2.1
  have hn := hC.1.2.2.1
  unfold nts
  by_cases q : c % 2 = 1
  · have hs : s + cl.length < 128 := by omega
    have A := adS_C (x := nI 10009) (y := 0) (z := 0) hC hs
    rw [f_X3_readOne_118, if_pos q, decide_eq_true q, if_neg (by decide), so_33, gp1, ly_33_6 hR, rl1, so_37, gp1, show (10009 : Int32) = nI 10009 from rfl, q_addS hR hs hC.2.1, bd1]
    refine ⟨_, 1, rfl, A.2.1, rfl, ⟨k, ?_⟩, Sps_app _ _ _ (Sps_fr cl s (fun j hj => A.2.2.1 j hj) hS) ⟨⟨?_, fun z => by cases z⟩, trivial⟩, Sld_t (Sld_r I s) A.2.2.1 (by omega)⟩
    · show CSt _ b n k e (s + (cl ++ [oT 20005]).length)
      rw [List.length_append, ← Nat.add_assoc]; exact A.1
    · rw [A.2.2.2.1]; rfl
  · rw [f_X3_readOne_118, if_neg q, decide_eq_false q, if_pos (by decide)]
    refine ⟨I, 1, rfl, frC_r I, rfl, ⟨k, ?_⟩, ?_, Sld_r I s⟩
    · show CSt _ b n k e (s + (cl ++ []).length)
      rw [List.append_nil]; exact hC
    · show Sps I s (cl ++ [])
      rw [List.append_nil]; exact hS
theorem q_47 (hR : Lay R) {G : Sh → Rw → Iw → Nat → Int32 → Option (Iw × Int32)} {g : Option (Nat → PRs)} {L h : Nat} (hL : L ≤ 3) (h0 : g = none → L = 0)
    (hg : ∀ gg, g = some gg → OkR b n h gg ∧ 1 ≤ L ∧ Rdr J R b n (fun I => f_X3_readCondition G (S0 ++ J) R I 33 (nI (3 - L + 1))) gg) {k e s c : Nat} (hC : CSt I b n k e s) (h5 : 5 * s ≤ 2 * e) :
    Cre b n s I (f_X3_readOne_47 G (S0 ++ J) R I 33 (nI (3 - L)) (yn (decide (c % 2 = 1)))) (pNo (pAt b n g) c e) := by
  have he := hC.1.2.1
  have hn := hC.1.2.2.1
  have ht := tk_le (b := b) (n := n) e
  rw [f_X3_readOne_47, so_33, gp1, q_peek hR hC.1, bd1, pNo]
  unfold pAt
  by_cases q : tk b n e = 20040
  · rw [if_pos (by rw [q]; rfl), if_pos q]
    cases g with
    | none =>
      rw [h0 rfl, if_neg (by decide)]
      exact ⟨I, 0, rfl, frC_r I, rfl, k, s, hC⟩
    | some gg =>
      obtain ⟨hok, hL1, hrd⟩ := hg gg rfl
      have C1 := adv_C hC (by omega)
      have hx := nx_le (b := b) he
      have hx1 := hx.2.2 (by omega)
      have hsk := skp_le (b := b) he
      rw [if_pos (by show nI (3 - L) < nI 3; rw [n_lt (by omega) (by omega)]; omega), q_adv hC, lt1, show nI (3 - L) + 1 = nI (3 - L + 1) by rw [show (1 : Int32) = nI 1 from rfl, n_add]]
      obtain ⟨I2, r2, e2, f2, m2⟩ := hrd _ _ _ _ C1 (by omega)
      have e2 : f_X3_readCondition G (S0 ++ J) R (adv I k) 33 (nI (3 - L + 1)) = some (I2, r2) := e2
      have G2 := hok (nx b n e) hx.2.1
      rw [e2, bd1]
      simp only
      cases hge : gg (nx b n e) with
      | inl ef =>
        rw [hge] at m2
        obtain ⟨m3, k', s', m4⟩ := m2
        rw [m3, if_pos rfl]
        exact ⟨I2, 0, rfl, frC_t (adv_f k) f2, rfl, k', s', m4⟩
      | inr p =>
        rw [hge] at m2
        obtain ⟨m3, ⟨k', m4⟩, m5, m6⟩ := m2
        have g3 := G2.2 p hge
        have g4 := g3.2.2.1
        have ht2 := tk_le (b := b) (n := n) p.1
        rw [m3, if_neg (by decide), q_peek hR m4.1, bd1]
        simp only
        by_cases q2 : tk b n p.1 = 20041
        · have C3 := adv_C m4 (by omega)
          have hx2 := nx_le (b := b) g3.2.1
          rw [if_pos (by rw [q2]; rfl), if_pos q2, q_adv m4, lt1]
          exact Cre_f (frC_t (adv_f k) (frC_t f2 (adv_f k'))) (Sld_t (adv_S k s) (Sld_t m6 (adv_S k' s) (Nat.le_refl s)) (Nat.le_refl s)) (q_118 hR C3 (by omega) (Sps_fr p.2.1 s (fun j hj => adv_S k' (s + p.2.1.length) j hj) m5) _)
        · rw [if_neg (by show ¬ nI (tk b n p.1) = nI 20041; rw [n_eq (by omega) (by omega)]; exact q2), if_neg q2]
          exact ⟨I2, 0, rfl, frC_t (adv_f k) f2, rfl, k', _, m4⟩
  · rw [if_neg (by show ¬ nI (tk b n e) = nI 20040; rw [n_eq (by omega) (by omega)]; exact q), if_neg q]
    obtain ⟨I2, r2, e2, f2, m2⟩ := q_cmp (J := J) hR hC (by omega)
    have G2 := pCmp_ok (b := b) (n := n) e he
    rw [e2, bd1]
    simp only
    cases hge : pCmp b n e with
    | inl ef =>
      rw [hge] at m2
      obtain ⟨m3, k', s', m4⟩ := m2
      rw [m3, if_pos rfl]
      exact ⟨I2, 0, rfl, f2, rfl, k', s', m4⟩
    | inr p =>
      rw [hge] at m2
      obtain ⟨m3, ⟨k', m4⟩, m5, m6⟩ := m2
      have g3 := G2.2 p hge
      have g4 := g3.2.2.1
      rw [m3, if_neg (by decide)]
      exact Cre_f f2 m6 (q_118 hR m4 (by omega) m5 _)
theorem q_one4 (hR : Lay R) {G : Sh → Rw → Iw → Nat → Int32 → Option (Iw × Int32)} {x : Int32} : ∀ (r f : Nat) (I : Iw) (k e s c : Nat), r ≤ 200 → r < f → CSt I b n k e s →
    ∃ I' k', f_X3_readOne_4 G (S0 ++ J) R f I 33 x (yn (decide (c % 2 = 1))) (nI (200 - r)) = f_X3_readOne_47 G (S0 ++ J) R I' 33 x (yn (decide ((c + (pNt b n r e).1) % 2 = 1))) ∧ CSt I' b n k' (pNt b n r e).2 s ∧ frC I I' ∧ Sld I I' s
  | 0, f, I, k, e, s, c, hr, hf, hC => by
    obtain ⟨f, rfl⟩ := Nat.exists_eq_succ_of_ne_zero (n := f) (by omega)
    refine ⟨I, k, ?_, hC, frC_r I, Sld_r I s⟩
    rw [f_X3_readOne_4, if_pos (by decide)]; rfl
  | r + 1, f, I, k, e, s, c, hr, hf, hC => by
    obtain ⟨f, rfl⟩ := Nat.exists_eq_succ_of_ne_zero (n := f) (by omega)
    have ht := tk_le (b := b) (n := n) e
    rw [f_X3_readOne_4, if_neg (by show ¬ nI 200 ≤ nI (200 - (r + 1)); rw [n_le (by omega) (by omega)]; omega), so_33, gp1, q_peek hR hC.1, bd1, pNt]
    by_cases q : tk b n e = 10009
    · obtain ⟨I', k', e1, e2, e3, e4⟩ := q_one4 hR (G := G) (x := x) r f (adv I k) (k + 1) (nx b n e) s (c + 1) (by omega) (by omega) (adv_C hC (by omega))
      refine ⟨I', k', ?_, by rw [if_pos q]; exact e2, frC_t (adv_f k) e3, Sld_t (adv_S k s) e4 (Nat.le_refl s)⟩
      rw [if_pos (by rw [q]; rfl), q_adv hC, lt1, if_pos q]
      have h1 : nI (200 - (r + 1)) + 1 = nI (200 - r) := by rw [show (1 : Int32) = nI 1 from rfl, n_add]; congr 1; omega
      rw [show c + ((pNt b n r (nx b n e)).1 + 1) = c + 1 + (pNt b n r (nx b n e)).1 by omega, ← e1, f_X3_readOne_40, f_X3_readOne_40, h1]
      by_cases p : c % 2 = 1
      · rw [decide_eq_true p, if_neg (by decide), decide_eq_false (show ¬ (c + 1) % 2 = 1 by omega)]; rfl
      · rw [decide_eq_false p, if_pos (by decide), decide_eq_true (show (c + 1) % 2 = 1 by omega)]; rfl
    · refine ⟨I, k, ?_, by rw [if_neg q]; exact hC, frC_r I, Sld_r I s⟩
      rw [if_neg (by show ¬ nI (tk b n e) = nI 10009; rw [n_eq (by omega) (by omega)]; exact q), if_neg q]; rfl
theorem q_one (hR : Lay R) : ∀ (L f : Nat), L ≤ 3 → L < f → Rdr J R b n (fun I => f_X3_readOne f (S0 ++ J) R I 33 (nI (3 - L))) (pOne b n L)
  | 0, f, hL, hf => by
    intro I k e s hC h5
    obtain ⟨f, rfl⟩ := Nat.exists_eq_succ_of_ne_zero (n := f) (by omega)
    show Cre b n s I (f_X3_readOne (f + 1) (S0 ++ J) R I 33 (nI 3)) (pOn b n (pAt b n none) e)
    rw [f_X3_readOne, f_X3_readOne_b, pOn]
    obtain ⟨I', k', e1, e2, e3, e4⟩ := q_one4 (J := J) hR (G := f_X3_readOne f) (x := nI 3) 200 512 I k e s 0 (by omega) (by omega) hC
    have hN := pNt_ok (b := b) (n := n) 200 e hC.1.2.1
    rw [Nat.zero_add] at e1
    have e1 : f_X3_readOne_4 (f_X3_readOne f) (S0 ++ J) R 512 I 33 (nI 3) 0 0 = _ := e1
    rw [e1]
    exact Cre_f e3 e4 (q_47 (L := 0) (h := 1) hR (by omega) (fun _ => rfl) (fun gg z => by cases z) e2 (by omega))
  | L + 1, f, hL, hf => by
    intro I k e s hC h5
    obtain ⟨f, rfl⟩ := Nat.exists_eq_succ_of_ne_zero (n := f) (by omega)
    show Cre b n s I (f_X3_readOne (f + 1) (S0 ++ J) R I 33 (nI (3 - (L + 1)))) (pOn b n (pAt b n (some (pCond b n (pOne b n L)))) e)
    rw [f_X3_readOne, f_X3_readOne_b, pOn]
    obtain ⟨I', k', e1, e2, e3, e4⟩ := q_one4 (J := J) hR (G := f_X3_readOne f) (x := nI (3 - (L + 1))) 200 512 I k e s 0 (by omega) (by omega) hC
    have hN := pNt_ok (b := b) (n := n) 200 e hC.1.2.1
    rw [Nat.zero_add] at e1
    have e1 : f_X3_readOne_4 (f_X3_readOne f) (S0 ++ J) R 512 I 33 (nI (3 - (L + 1))) 0 0 = _ := e1
    rw [e1]
    refine Cre_f e3 e4 (q_47 (L := L + 1) (h := 2 * L + 3) hR hL (fun z => by cases z) (fun gg z => ?_) e2 (by omega))
    cases z
    refine ⟨pCond_ok L, by omega, ?_⟩
    have ih := q_cond (x := nI (3 - L)) hR (pOne_ok L) (q_one hR L f (by omega) (by omega))
    rw [show 3 - (L + 1) + 1 = 3 - L by omega]
    exact ih
theorem q_condition (hR : Lay R) : Rdr J R b n (fun I => f_X3_readCondition (f_X3_readOne 8) (S0 ++ J) R I 33 0) (pCond b n (pOne b n 3)) :=
  q_cond (x := nI 0) hR (pOne_ok 3) (q_one hR 3 8 (by omega) (by omega))
end CCD
