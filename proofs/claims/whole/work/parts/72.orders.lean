/-! ORDERS AS PLAIN RECURSIONS: how many, how far, how dear, who, who wins -/
def cn (s : Nat) : Nat → Nat
  | 0 => 0
  | k + 1 => cn s k + (if s.testBit k then 1 else 0)
def cnt (s : Nat) : Nat := cn s 10
theorem cn_diff {s g : Nat} (hg : s.testBit g = true) : ∀ k, k ≤ 10 → cn (mdiff s (2 ^ g)) k + (if g < k then 1 else 0) = cn s k
  | 0, _ => by simp [cn]
  | k + 1, hk => by
    have ih := cn_diff hg k (by omega)
    rw [cn, cn, mdiff_bit, Nat.testBit_two_pow]
    by_cases e : g = k
    · subst e
      simp [hg] at ih ⊢
      omega
    · have h : k < 10 := by omega
      have e1 : (g < k + 1) ↔ (g < k) := by omega
      simp only [e, e1, h, decide_true, decide_false, Bool.and_true, Bool.not_false]
      omega
theorem cnt_diff {s g : Nat} (hg : s.testBit g = true) (h : g < 10) : cnt (mdiff s (2 ^ g)) + 1 = cnt s := by
  have := cn_diff hg 10 (Nat.le_refl _)
  rw [if_pos h] at this
  exact this
theorem cn_z : ∀ k, cn 0 k = 0
  | 0 => rfl
  | k + 1 => by rw [cn, cn_z k]; simp
theorem cn_0 {s : Nat} : ∀ k, cn s k = 0 → ∀ i, i < k → s.testBit i = false
  | 0, _, i, h => absurd h (Nat.not_lt_zero i)
  | k + 1, h0, i, h => by
    rw [cn] at h0
    by_cases e : s.testBit k = true
    · rw [if_pos e] at h0; omega
    · rw [if_neg e] at h0
      by_cases e2 : i = k
      · subst e2; simpa using e
      · exact cn_0 k h0 i (by omega)
theorem cnt_0 {s : Nat} (hs : s < 1024) : cnt s = 0 ↔ s = 0 := by
  constructor
  · intro h
    refine Nat.eq_of_testBit_eq fun i => ?_
    rw [Nat.zero_testBit]
    by_cases e : i < 10
    · exact cn_0 10 h i e
    · exact bit_big hs (by omega)
  · intro h; subst h; exact cn_z 10
theorem cn_le {s : Nat} : ∀ k, cn s k ≤ k
  | 0 => Nat.le_refl _
  | k + 1 => by
    have := cn_le (s := s) k
    rw [cn]; split <;> omega
theorem cnt_9 {s : Nat} (hs : s < 512) : cnt s ≤ 9 := by
  have h9 : s.testBit 9 = false := Nat.testBit_lt_two_pow (by simpa using hs)
  have := cn_le (s := s) 9
  show cn s 9 + (if s.testBit 9 then 1 else 0) ≤ 9
  rw [h9]; simpa using this
theorem bitc {S : Sh} {R : Rw} {I : Iw} {s : Nat} (h : s < 1024) : f_J6_bitCount_0f7a4 S R I (nI s) = some (nI (cnt s)) :=
  (by decide +kernel : ∀ s, s < 1024 → f_J6_bitCount_0f7a4 [] (fun _ _ => none) (fun _ _ => 0) (nI s) = some (nI (cnt s))) s h
def sm (f : Nat → Nat) : Nat → Nat
  | 0 => 0
  | t + 1 => sm f t + f t
def mx (f : Nat → Nat) : Nat → Nat
  | 0 => 0
  | t + 1 => max (mx f t) (f t)
def orF (f : Nat → Nat) : Nat → Nat
  | 0 => 0
  | t + 1 => orF f t ||| f t
def anyB (f : Nat → Bool) : Nat → Bool
  | 0 => false
  | t + 1 => anyB f t || f t
def omin : Option Nat → Option Nat → Option Nat
  | none, b => b
  | a, none => a
  | some a, some b => some (min a b)
def mn (z : Option Nat) (f : Nat → Option Nat) : Nat → Option Nat
  | 0 => z
  | t + 1 => omin (mn z f t) (f t)
def fre (D : Dt) (s l : Nat) : Nat := mk (mayb D s l) (d_n D)
section ORD
variable (F : Nat → Nat → Nat) (fe : Nat → Nat) (af : Nat)
/-- ways, longest, cost, goers, wins -/
def oW : Nat → Nat → Nat → Nat
  | 0, s, _ => if s = 0 then 1 else 0
  | k + 1, s, l => if s = 0 then 1 else sm (fun g => if (F s l).testBit g then oW k (mdiff s (2 ^ g)) (g + 1) else 0) 9
def oM : Nat → Nat → Nat → Nat
  | 0, _, _ => 0
  | k + 1, s, l => mx (fun g => if (F s l).testBit g then oM k (mdiff s (2 ^ g)) (g + 1) + 1 else 0) 9
def oC : Nat → Nat → Nat → Option Nat
  | 0, s, _ => if s = 0 then some 0 else none
  | k + 1, s, l => mn (if s = 0 then some 0 else none) (fun g => if (F s l).testBit g then (oC k (mdiff s (2 ^ g)) (g + 1)).map (fun c => fe g * (af - cnt s + 1) + c) else none) 9
def oG : Nat → Nat → Nat → Nat
  | 0, _, _ => 0
  | k + 1, s, l => orF (fun g => if (F s l).testBit g then 2 ^ g ||| oG k (mdiff s (2 ^ g)) (g + 1) else 0) 9
def oX : Nat → Nat → Nat → Bool
  | 0, _, _ => false
  | k + 1, s, l => anyB (fun g => (F s l).testBit g && !oX k (mdiff s (2 ^ g)) (g + 1)) 9
theorem sm_le {f : Nat → Nat} {b : Nat} (h : ∀ g, f g ≤ b) : ∀ t, sm f t ≤ t * b
  | 0 => by simp [sm]
  | t + 1 => by
    have := sm_le h t
    have h2 := h t
    rw [sm, Nat.succ_mul]; omega
theorem oW_le : ∀ k s l, oW F k s l ≤ 9 ^ k
  | 0, s, l => by rw [oW]; split <;> simp
  | k + 1, s, l => by
    rw [oW, Nat.pow_succ]
    have p9 : 1 ≤ 9 ^ k := Nat.one_le_pow _ _ (by decide)
    split
    · omega
    · have := sm_le (f := fun g => if (F s l).testBit g then oW F k (mdiff s (2 ^ g)) (g + 1) else 0) (b := 9 ^ k) (fun g => by
        split
        · exact oW_le k _ _
        · exact Nat.zero_le _) 9
      omega
theorem oW_lt {k s l : Nat} (h : k ≤ 9) : oW F k s l < 2 ^ 30 := by
  have h1 := oW_le F k s l
  have h2 : 9 ^ k ≤ 9 ^ 9 := Nat.pow_le_pow_right (by decide) h
  have h3 : 9 ^ 9 < 2 ^ 30 := by decide
  omega
theorem mx_le {f : Nat → Nat} {b : Nat} (h : ∀ g, f g ≤ b) : ∀ t, mx f t ≤ b
  | 0 => Nat.zero_le _
  | t + 1 => by
    have := mx_le h t
    have h2 := h t
    rw [mx]; omega
theorem oM_le : ∀ k s l, oM F k s l ≤ k
  | 0, s, l => Nat.le_refl _
  | k + 1, s, l => by
    rw [oM]
    refine mx_le (fun g => ?_) 9
    split
    · exact Nat.succ_le_succ (oM_le k _ _)
    · exact Nat.zero_le _
theorem omin_le {a b : Option Nat} {M : Nat} (ha : ∀ c, a = some c → c ≤ M) (hb : ∀ c, b = some c → c ≤ M) : ∀ c, omin a b = some c → c ≤ M := by
  intro c h
  cases a with
  | none => exact hb c h
  | some x =>
    cases b with
    | none => exact ha c h
    | some y =>
      have h1 := ha x rfl
      simp only [omin, Option.some.injEq] at h
      omega
theorem mn_le {z : Option Nat} {f : Nat → Option Nat} {M : Nat} (hz : ∀ c, z = some c → c ≤ M) (h : ∀ g c, f g = some c → c ≤ M) : ∀ t c, mn z f t = some c → c ≤ M
  | 0 => hz
  | t + 1 => omin_le (mn_le hz h t) (h t)
theorem oC_le {B : Nat} (hB : ∀ g, fe g * (af + 1) ≤ B) : ∀ k s l c, oC F fe af k s l = some c → c ≤ B * k
  | 0, s, l, c => by
    rw [oC]; split
    · intro h; cases h; exact Nat.zero_le _
    · intro h; cases h
  | k + 1, s, l, c => by
    rw [oC]
    refine mn_le (fun c h => ?_) (fun g c h => ?_) 9 c
    · split at h <;> cases h
      exact Nat.zero_le _
    · split at h
      · cases e : oC F fe af k (mdiff s (2 ^ g)) (g + 1) with
        | none => rw [e] at h; cases h
        | some c2 =>
          rw [e] at h
          have h2 := oC_le hB k _ _ c2 e
          have h3 := hB g
          have h4 : fe g * (af - cnt s + 1) ≤ fe g * (af + 1) := Nat.mul_le_mul_left _ (by omega)
          simp only [Option.map_some, Option.some.injEq] at h
          rw [Nat.mul_succ]; omega
      · cases h
theorem orF_bit {f : Nat → Nat} (i : Nat) : ∀ t, (orF f t).testBit i = true ↔ ∃ g, g < t ∧ (f g).testBit i = true
  | 0 => by simp [orF]
  | t + 1 => by
    rw [orF, Nat.testBit_or, Bool.or_eq_true, orF_bit i t]
    constructor
    · rintro (⟨g, h1, h2⟩ | h)
      · exact ⟨g, by omega, h2⟩
      · exact ⟨t, by omega, h⟩
    · rintro ⟨g, h1, h2⟩
      by_cases e : g = t
      · subst e; exact Or.inr h2
      · exact Or.inl ⟨g, by omega, h2⟩
/-- where there is a way there is a cost -/
theorem omin_some {a b : Option Nat} : (omin a b).isSome = (a.isSome || b.isSome) := by
  cases a <;> cases b <;> rfl
theorem WC : ∀ k s l, decide (0 < oW F k s l) = (oC F fe af k s l).isSome
  | 0, s, l => by rw [oW, oC]; split <;> rfl
  | k + 1, s, l => by
    rw [oW, oC]
    have key : ∀ (z : Option Nat) t, (mn z (fun g => if (F s l).testBit g then (oC F fe af k (mdiff s (2 ^ g)) (g + 1)).map (fun c => fe g * (af - cnt s + 1) + c) else none) t).isSome = (z.isSome || decide (0 < sm (fun g => if (F s l).testBit g then oW F k (mdiff s (2 ^ g)) (g + 1) else 0) t)) := by
      intro z t
      induction t with
      | zero => simp [mn, sm]
      | succ t ih =>
        rw [mn, sm, omin_some, ih]
        by_cases e : (F s l).testBit t = true
        · rw [if_pos e, if_pos e, Option.isSome_map, ← WC k, Bool.or_assoc]
          congr 1
          rw [Bool.eq_iff_iff, Bool.or_eq_true, decide_eq_true_eq, decide_eq_true_eq, decide_eq_true_eq]
          omega
        · rw [if_neg e, if_neg e, Nat.add_zero]; simp
    rw [key]
    split <;> simp
end ORD
