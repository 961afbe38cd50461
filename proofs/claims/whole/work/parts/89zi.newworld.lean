/-! THE WORLDS WITH NEW RULES -/
section NWO
variable {J : Sh} {R : Rw} {I : Iw} {D : Dt} {nr n : Nat} {rs : Nat → Rl5}
theorem CR_ru (h : CR I 1 D) (hS : CRs I nr rs) (hG : GdA nr rs) (h5 : 5 * stR (rcl rs) nr ≤ 400) : CR (c8g I) 1 (DR D nr rs) := by
  have e : ∀ a j, (a < 8 ∨ 14 < a) → c8g I a j = I a j := fun a j q => by
    rw [c8_e, if_neg (by omega), if_neg (by omega), if_neg (by omega), if_neg (by omega), if_neg (by omega), if_neg (by omega), c8a, u_eq, if_neg (by omega), u_eq, if_neg (by omega)]
  obtain ⟨⟨a1, a2, a3, a4, a5, a6, a7, a8, a9, _, a11⟩, am⟩ := h
  have h8 := hG.1
  refine ⟨⟨(e 1 5 (by omega)).trans a1, (e 1 6 (by omega)).trans a2, (e 1 8 (by omega)).trans a3, (e 1 9 (by omega)).trans a4, (e 1 10 (by omega)).trans a5, (e 1 14 (by omega)).trans a6, (e 1 15 (by omega)).trans a7, fun g hg => ?_, fun k hk => (e 7 k (by omega)).trans (a9 k hk), ⟨?_, ?_, fun r hr => ⟨?_, ?_, ?_, fun i c hc => ?_⟩⟩, fun k hk => ?_⟩, fun g hg => (e 6 g (by omega)).trans (am g hg)⟩
  · have := a8 g hg
    exact ⟨(e 2 g (by omega)).trans this.1, (e 3 g (by omega)).trans this.2.1, (e 4 g (by omega)).trans this.2.2.1, (e 5 g (by omega)).trans this.2.2.2⟩
  · show c8g I 8 0 = nI nr
    rw [c8_e, if_neg (by omega), if_neg (by omega), if_neg (by omega), if_neg (by omega), if_neg (by omega), if_neg (by omega), c8a, u_eq, if_neg (by omega), u_eq, if_pos ⟨rfl, rfl⟩, hS.1]
  · show c8g I 8 4 = nI (stR (rcl rs) nr)
    rw [c8_e, if_neg (by omega), if_neg (by omega), if_neg (by omega), if_neg (by omega), if_neg (by omega), if_neg (by omega), c8a, u_eq, if_pos ⟨rfl, rfl⟩, hS.2.1]
  · have hr : r < nr := hr
    show c8g I 9 r = nI (rs r).1
    rw [c8_e, if_neg (by omega), if_neg (by omega), if_neg (by omega), if_neg (by omega), if_neg (by omega), if_pos (by omega), (hS.2.2 r hr).1]
  · have hr : r < nr := hr
    show c8g I 10 r = chN (rs r).2.1 (rs r).2.2.1
    rw [c8_e, if_neg (by omega), if_neg (by omega), if_neg (by omega), if_neg (by omega), if_pos (by omega), (hS.2.2 r hr).2.1]
  · have hr : r < nr := hr
    show c8g I 11 r = nI (stR (rcl rs) (r + 1))
    rw [c8_e, if_neg (by omega), if_neg (by omega), if_neg (by omega), if_pos (by omega), (hS.2.2 r hr).2.2.1]
  · have hr : r < nr := hr
    have hc : (rcl rs r)[i]? = some c := hc
    have hi : i < (rcl rs r).length := by
      apply Decidable.byContradiction
      intro q
      rw [List.getElem?_eq_none (by omega)] at hc
      cases hc
    have mo := stR_mono (rcl rs) (show r + 1 ≤ nr by omega)
    have sr : stR (rcl rs) (r + 1) = stR (rcl rs) r + (rcl rs r).length := rfl
    have G := Sps_get _ _ _ _ (hS.2.2 r hr).2.2.2 hc
    show c8g I 12 (stR (rcl rs) r + i) = nI (cSgn c.1) ∧ (isCmp c.1 = true → c8g I 13 (stR (rcl rs) r + i) = nI (cTok c.2.1) ∧ c8g I 14 (stR (rcl rs) r + i) = nI (cTok c.2.2))
    refine ⟨?_, fun z => ⟨?_, ?_⟩⟩
    · rw [c8_e, if_neg (by omega), if_neg (by omega), if_pos (by omega), G.1]
    · rw [c8_e, if_neg (by omega), if_pos (by omega), (G.2 z).1]
    · rw [c8_e, if_pos (by omega), (G.2 z).2]
  · have := a11 k hk
    exact ⟨(e 15 k (by omega)).trans this.1, (e 16 k (by omega)).trans this.2⟩
/-- the reference's row after its rules were copied -/
theorem MR_ru {I' : Iw} (h : MR I 66 D) (hS : MRs I nr rs) (h8 : nr ≤ 8) (ht : tkR (rrw rs) nr ≤ 200)
    (c4 : I' 66 4 = nI nr) (c1 : ∀ i, i < nr → I' 66 (73 + 3 * i) = I 74 i ∧ I' 66 (74 + 3 * i) = I 75 i ∧ I' 66 (75 + 3 * i) = I 76 i ∧ I' 66 (97 + i) = I 73 i)
    (c2 : I' 66 (97 + nr) = nI (tkR (rrw rs) nr)) (c3 : ∀ j, j < tkR (rrw rs) nr → I' 66 (106 + j) = I 70 j) (c5 : ∀ j, j < 73 → j ≠ 4 → I' 66 j = I 66 j) (hV : VD D) : MR I' 66 (DR D nr rs) := by
  obtain ⟨a0, a1, a2, a3, _, a5, a6, a7, a8, a9, a10, _, _⟩ := h
  have hn := hV.1
  have ho := hV.2.1
  have hp := hV.2.2.2.2.2.2.2.1
  refine ⟨(c5 0 (by omega) (by omega)).trans a0, (c5 1 (by omega) (by omega)).trans a1, (c5 2 (by omega) (by omega)).trans a2, (c5 3 (by omega) (by omega)).trans a3, c4, (c5 5 (by omega) (by omega)).trans a5, (c5 6 (by omega) (by omega)).trans a6, fun k hk => (c5 _ (by omega) (by omega)).trans (a7 k hk), fun g hg => ?_, fun k hk => ?_, fun k hk => ?_, fun r hr => ⟨?_, ?_, ?_, fun i t hi => ?_⟩, fun r hr => ?_⟩
  · have hg : g < d_n D := hg
    have := a8 g hg
    exact ⟨(c5 _ (by omega) (by omega)).trans this.1, (c5 _ (by omega) (by omega)).trans this.2.1, (c5 _ (by omega) (by omega)).trans this.2.2.1, (c5 _ (by omega) (by omega)).trans this.2.2.2.1, fun z => (c5 _ (by omega) (by omega)).trans (this.2.2.2.2 z)⟩
  · have hk : k < d_o D := hk
    have hl := hV.2.2.1 k hk
    show I' 66 (20 + 5 * d_ln D k) = nI k
    rw [c5 _ (by omega) (by omega)]; exact a9 k hk
  · have hk : k < d_np D := hk
    have := a10 k hk
    exact ⟨(c5 _ (by omega) (by omega)).trans this.1, (c5 _ (by omega) (by omega)).trans this.2⟩
  · exact (c1 r hr).1.trans (hS r hr).2.1
  · exact (c1 r hr).2.1.trans (hS r hr).2.2.1
  · exact fun z => (c1 r hr).2.2.1.trans ((hS r hr).2.2.2.1 z)
  · have hr : r < nr := hr
    have hi : (tks (rrw rs r))[i]? = some t := hi
    have hl : i < (tks (rrw rs r)).length := by
      apply Decidable.byContradiction
      intro q
      rw [List.getElem?_eq_none (by omega)] at hi
      cases hi
    have mo := tkR_mono (rrw rs) (show r + 1 ≤ nr by omega)
    have sr : tkR (rrw rs) (r + 1) = tkR (rrw rs) r + (tks (rrw rs r)).length := rfl
    show I' 66 (106 + (tkR (rrw rs) r + i)) = nI t
    rw [c3 _ (by omega)]
    exact Tkc_get _ _ _ _ (hS r hr).2.2.2.2 hi
  · have hr : r ≤ nr := hr
    show I' 66 (97 + r) = nI (tkR (rrw rs) r)
    by_cases q : r = nr
    · rw [q]; exact c2
    · exact (c1 r (by omega)).2.2.2.trans (hS r (by omega)).1
end NWO
