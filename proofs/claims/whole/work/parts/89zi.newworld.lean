/-! THE WORLDS WITH NEW RULES -/
section NWO
variable {J : Sh} {R : Rw} {I : Iw} {D : Dt} {nr n : Nat} {rs : Nat → Rl5}
theorem CR_ru (h : CR I 1 D) (hS : CRs I nr rs) (hG : GdA nr rs) (h5 : 5 * stR (rcl rs) nr ≤ 400) : CR (c8g I) 1 (DR D nr rs) := by
  have e : ∀ a j, (a < 8 ∨ 14 < a) → c8g I a j = I a j := fun a j q => by
    rw [c8_e, if_neg (by omega), if_neg (by omega), if_neg (by omega), if_neg (by omega), if_neg (by omega), if_neg (by omega), c8a, u_eq, if_neg (by omega), u_eq, if_neg (by omega)]
  obtain ⟨⟨a1, a2, a3, a4, a5, a6, a7, a8, a9, _, a11⟩, am⟩ := h
  have h8 := hG.1
  refine ⟨⟨(e 1 5 (by omega)).trans a1, (e 1 6 (by omega)).trans a2, (e 1 8 (by omega)).trans a3, (e 1 9 (by omega)).trans a4, (e 1 10 (by omega)).trans a5, (e 1 14 (by omega)).trans a6, (e 1 15 (by omega)).trans a7, fun g hg => ?_, fun k hk => (e 7 k (by omega)).trans (a9 k hk), ⟨?_, ?_, fun r hr => ⟨?_, ?_, ?_, fun i c hc => ?_⟩⟩, fun k hk => ?_⟩, fun g hg => (e 6 g (by omega)).trans (am g hg)⟩
  · have := a8 g hg
    exact ⟨(e 2 g (by omega)).trans this.1, (e 3 g (by omega)).trans this.2.1, (e 4 g (by omega)).trans this.2.2.1, (e 5 g (by omega)).trans this.2.2.2⟩
  · show c8g I 8 0 = nI nr
    rw [c8_e, if_neg (by omega), if_neg (by omega), if_neg (by omega), if_neg (by omega), if_neg (by omega), if_neg (by omega), c8a, u_eq, if_neg (by omega), u_eq, if_pos ⟨rfl, rfl⟩, hS.1]
  · show c8g I 8 4 = nI (stR (rcl rs) nr)
    rw [c8_e, if_neg (by omega), if_neg (by omega), if_neg (by omega), if_neg (by omega), if_neg (by omega), if_neg (by omega), c8a, u_eq, if_pos ⟨rfl, rfl⟩, hS.2.1]
  · have hr : r < nr := hr
    show c8g I 9 r = nI (rs r).1
    rw [c8_e, if_neg (by omega), if_neg (by omega), if_neg (by omega), if_neg (by omega), if_neg (by omega), if_pos (by omega), (hS.2.2 r hr).1]
  · have hr : r < nr := hr
    show c8g I 10 r = chN (rs r).2.1 (rs r).2.2.1
    rw [c8_e, if_neg (by omega), if_neg (by omega), if_neg (by omega), if_neg (by omega), if_pos (by omega), (hS.2.2 r hr).2.1]
  · have hr : r < nr := hr
    show c8g I 11 r = nI (stR (rcl rs) (r + 1))
    rw [c8_e, if_neg (by omega), if_neg (by omega), if_neg (by omega), if_pos (by omega), (hS.2.2 r hr).2.2.1]
  · have hr : r < nr := hr
    have hc : (rcl rs r)[i]? = some c := hc
    have hi : i < (rcl rs r).length := by
      apply Decidable.byContradiction
      intro q
      rw [List.getElem?_eq_none (by omega)] at hc
      cases hc
    have mo := stR_mono (rcl rs) (show r + 1 ≤ nr by omega)
    have sr : stR (rcl rs) (r + 1) = stR (rcl rs) r + (rcl rs r).length := rfl
    have G := Sps_get _ _ _ _ (hS.2.2 r hr).2.2.2 hc
    show c8g I 12 (stR (rcl rs) r + i) = nI (cSgn c.1) ∧ (isCmp c.1 = true → c8g I 13 (stR (rcl rs) r + i) = nI (cTok c.2.1) ∧ c8g I 14 (stR (rcl rs) r + i) = nI (cTok c.2.2))
    refine ⟨?_, fun z => ⟨?_, ?_⟩⟩
    · rw [c8_e, if_neg (by omega), if_neg (by omega), if_pos (by omega), G.1]
    · rw [c8_e, if_neg (by omega), if_pos (by omega), (G.2 z).1]
    · rw [c8_e, if_pos (by omega), (G.2 z).2]
  · have := a11 k hk
    exact ⟨(e 15 k (by omega)).trans this.1, (e 16 k (by omega)).trans this.2⟩
end NWO
