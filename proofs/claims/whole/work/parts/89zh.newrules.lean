/-! THE DATA WITH NEW RULES -/
def DR (D : Dt) (nr : Nat) (rs : Nat → Rl5) : Dt := Dru D nr (fun r => (rs r).1) (fun r => (rs r).2.1) (fun r => (rs r).2.2.1) (fun r => (rcl rs r, rrw rs r))
section NRU
variable {I : Iw} {D : Dt} {nr n : Nat} {rs : Nat → Rl5}
theorem VD_ru (hV : VD D) (hG : GdA nr rs) (h5 : 5 * stR (rcl rs) nr ≤ 2 * n) (hn : n ≤ 200) (ht : tkR (rrw rs) nr ≤ n) : VD (DR D nr rs) := by
  refine ⟨hV.1, hV.2.1, hV.2.2.1, hV.2.2.2.1, hV.2.2.2.2.1, hV.2.2.2.2.2.1, ⟨hG.1, ?_, ?_, fun r hr => ?_⟩, hV.2.2.2.2.2.2.2⟩
  · show stR (rcl rs) nr ≤ 128
    omega
  · show tkR (rrw rs) nr ≤ 200
    omega
  · exact hG.2 r hr
theorem Tkc_get : ∀ (l : List Nat) (m i t : Nat), Tkc I m l → l[i]? = some t → I 70 (m + i) = nI t
  | [], _, _, _, _, h => by cases h
  | x :: l, m, 0, t, h, e => by cases e; exact h.1
  | x :: l, m, i + 1, t, h, e => by
    rw [show m + (i + 1) = m + 1 + i by omega]
    exact Tkc_get l (m + 1) i t h.2 e
theorem Sps_get : ∀ (l : List Sp3) (s i : Nat) (c : Sp3), Sps I s l → l[i]? = some c → I 41 (s + i) = nI (cSgn c.1) ∧ (isCmp c.1 = true → I 42 (s + i) = nI (cTok c.2.1) ∧ I 43 (s + i) = nI (cTok c.2.2))
  | [], _, _, _, _, h => by cases h
  | x :: l, s, 0, c, h, e => by cases e; exact h.1
  | x :: l, s, i + 1, c, h, e => by
    rw [show s + (i + 1) = s + 1 + i by omega]
    exact Sps_get l (s + 1) i c h.2 e
end NRU
