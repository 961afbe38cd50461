/-! AT THE START -/
theorem tb_sub {w : Cond} (h : w ∈ TB) : w ∈ lw_tbl := (List.mem_filter.mp h).1
def tmS (i : Nat) : Term := .string (txK.getD i ("", 0, "")).1 (txK.getD i ("", 0, "")).2.1
def prem1 : List Cond := flatC (Jvm.Cond.and given_1 narrow_1)
theorem tx_ex : ∀ i, i < txN → Cond.exactly (tmS i) "java/lang/String" ∈ prem1 := by decide +kernel
theorem tx_co : ∀ i, i < txN → Cond.eq (.field (tmS i) "java/lang/String" "coder" "B") (.int 0) ∈ prem1 := by decide +kernel
theorem tx_ar : ∀ i, i < txN → Cond.arrayOf (.field (tmS i) "java/lang/String" "value" "[B") .byte ∈ prem1 := by decide +kernel
theorem tx_le : ∀ i, i < txN → Cond.eq (.length (.field (tmS i) "java/lang/String" "value" "[B")) (.int (Int32.ofNat (txL.getD i 0))) ∈ prem1 := by decide +kernel

def elB : List Nat := [22, 117, 125, 134, 146, 159, 174, 188, 203, 221, 238, 258, 278, 296, 316, 337, 358, 382, 407]
theorem tx_el_0_0 : ∀ j, j < 16 → prem1[22 + j]? = some (Cond.eq (.elem (.field (tmS 0) "java/lang/String" "value" "[B") (.int (Int32.ofNat (0 + j)))) (.int ((txB.getD 0 []).getD (0 + j) 0))) := by decide +kernel
theorem tx_el_0_16 : ∀ j, j < 16 → prem1[38 + j]? = some (Cond.eq (.elem (.field (tmS 0) "java/lang/String" "value" "[B") (.int (Int32.ofNat (16 + j)))) (.int ((txB.getD 0 []).getD (16 + j) 0))) := by decide +kernel
theorem tx_el_0_32 : ∀ j, j < 16 → prem1[54 + j]? = some (Cond.eq (.elem (.field (tmS 0) "java/lang/String" "value" "[B") (.int (Int32.ofNat (32 + j)))) (.int ((txB.getD 0 []).getD (32 + j) 0))) := by decide +kernel
theorem tx_el_0_48 : ∀ j, j < 16 → prem1[70 + j]? = some (Cond.eq (.elem (.field (tmS 0) "java/lang/String" "value" "[B") (.int (Int32.ofNat (48 + j)))) (.int ((txB.getD 0 []).getD (48 + j) 0))) := by decide +kernel
theorem tx_el_0_64 : ∀ j, j < 16 → prem1[86 + j]? = some (Cond.eq (.elem (.field (tmS 0) "java/lang/String" "value" "[B") (.int (Int32.ofNat (64 + j)))) (.int ((txB.getD 0 []).getD (64 + j) 0))) := by decide +kernel
theorem tx_el_0_80 : ∀ j, j < 11 → prem1[102 + j]? = some (Cond.eq (.elem (.field (tmS 0) "java/lang/String" "value" "[B") (.int (Int32.ofNat (80 + j)))) (.int ((txB.getD 0 []).getD (80 + j) 0))) := by decide +kernel
theorem tx_el_0 : ∀ j, j < 91 → Cond.eq (.elem (.field (tmS 0) "java/lang/String" "value" "[B") (.int (Int32.ofNat j))) (.int ((txB.getD 0 []).getD j 0)) ∈ prem1 := by
  intro j hj
  by_cases h0 : j < 16
  · have e0 := tx_el_0_0 (j - 0) (by omega)
    rw [show 0 + (j - 0) = j by omega] at e0
    exact List.mem_of_getElem? e0
  by_cases h1 : j < 32
  · have e1 := tx_el_0_16 (j - 16) (by omega)
    rw [show 16 + (j - 16) = j by omega] at e1
    exact List.mem_of_getElem? e1
  by_cases h2 : j < 48
  · have e2 := tx_el_0_32 (j - 32) (by omega)
    rw [show 32 + (j - 32) = j by omega] at e2
    exact List.mem_of_getElem? e2
  by_cases h3 : j < 64
  · have e3 := tx_el_0_48 (j - 48) (by omega)
    rw [show 48 + (j - 48) = j by omega] at e3
    exact List.mem_of_getElem? e3
  by_cases h4 : j < 80
  · have e4 := tx_el_0_64 (j - 64) (by omega)
    rw [show 64 + (j - 64) = j by omega] at e4
    exact List.mem_of_getElem? e4
  by_cases h5 : j < 91
  · have e5 := tx_el_0_80 (j - 80) (by omega)
    rw [show 80 + (j - 80) = j by omega] at e5
    exact List.mem_of_getElem? e5
  omega
theorem tx_el_1_0 : ∀ j, j < 3 → prem1[117 + j]? = some (Cond.eq (.elem (.field (tmS 1) "java/lang/String" "value" "[B") (.int (Int32.ofNat (0 + j)))) (.int ((txB.getD 1 []).getD (0 + j) 0))) := by decide +kernel
theorem tx_el_1 : ∀ j, j < 3 → Cond.eq (.elem (.field (tmS 1) "java/lang/String" "value" "[B") (.int (Int32.ofNat j))) (.int ((txB.getD 1 []).getD j 0)) ∈ prem1 := by
  intro j hj
  by_cases h0 : j < 3
  · have e0 := tx_el_1_0 (j - 0) (by omega)
    rw [show 0 + (j - 0) = j by omega] at e0
    exact List.mem_of_getElem? e0
  omega
theorem tx_el_2_0 : ∀ j, j < 3 → prem1[125 + j]? = some (Cond.eq (.elem (.field (tmS 2) "java/lang/String" "value" "[B") (.int (Int32.ofNat (0 + j)))) (.int ((txB.getD 2 []).getD (0 + j) 0))) := by decide +kernel
theorem tx_el_2 : ∀ j, j < 3 → Cond.eq (.elem (.field (tmS 2) "java/lang/String" "value" "[B") (.int (Int32.ofNat j))) (.int ((txB.getD 2 []).getD j 0)) ∈ prem1 := by
  intro j hj
  by_cases h0 : j < 3
  · have e0 := tx_el_2_0 (j - 0) (by omega)
    rw [show 0 + (j - 0) = j by omega] at e0
    exact List.mem_of_getElem? e0
  omega
theorem tx_el_3_0 : ∀ j, j < 5 → prem1[134 + j]? = some (Cond.eq (.elem (.field (tmS 3) "java/lang/String" "value" "[B") (.int (Int32.ofNat (0 + j)))) (.int ((txB.getD 3 []).getD (0 + j) 0))) := by decide +kernel
theorem tx_el_3 : ∀ j, j < 5 → Cond.eq (.elem (.field (tmS 3) "java/lang/String" "value" "[B") (.int (Int32.ofNat j))) (.int ((txB.getD 3 []).getD j 0)) ∈ prem1 := by
  intro j hj
  by_cases h0 : j < 5
  · have e0 := tx_el_3_0 (j - 0) (by omega)
    rw [show 0 + (j - 0) = j by omega] at e0
    exact List.mem_of_getElem? e0
  omega
theorem tx_el_4_0 : ∀ j, j < 5 → prem1[146 + j]? = some (Cond.eq (.elem (.field (tmS 4) "java/lang/String" "value" "[B") (.int (Int32.ofNat (0 + j)))) (.int ((txB.getD 4 []).getD (0 + j) 0))) := by decide +kernel
theorem tx_el_4 : ∀ j, j < 5 → Cond.eq (.elem (.field (tmS 4) "java/lang/String" "value" "[B") (.int (Int32.ofNat j))) (.int ((txB.getD 4 []).getD j 0)) ∈ prem1 := by
  intro j hj
  by_cases h0 : j < 5
  · have e0 := tx_el_4_0 (j - 0) (by omega)
    rw [show 0 + (j - 0) = j by omega] at e0
    exact List.mem_of_getElem? e0
  omega
theorem tx_el_5_0 : ∀ j, j < 6 → prem1[159 + j]? = some (Cond.eq (.elem (.field (tmS 5) "java/lang/String" "value" "[B") (.int (Int32.ofNat (0 + j)))) (.int ((txB.getD 5 []).getD (0 + j) 0))) := by decide +kernel
theorem tx_el_5 : ∀ j, j < 6 → Cond.eq (.elem (.field (tmS 5) "java/lang/String" "value" "[B") (.int (Int32.ofNat j))) (.int ((txB.getD 5 []).getD j 0)) ∈ prem1 := by
  intro j hj
  by_cases h0 : j < 6
  · have e0 := tx_el_5_0 (j - 0) (by omega)
    rw [show 0 + (j - 0) = j by omega] at e0
    exact List.mem_of_getElem? e0
  omega
theorem tx_el_6_0 : ∀ j, j < 4 → prem1[174 + j]? = some (Cond.eq (.elem (.field (tmS 6) "java/lang/String" "value" "[B") (.int (Int32.ofNat (0 + j)))) (.int ((txB.getD 6 []).getD (0 + j) 0))) := by decide +kernel
theorem tx_el_6 : ∀ j, j < 4 → Cond.eq (.elem (.field (tmS 6) "java/lang/String" "value" "[B") (.int (Int32.ofNat j))) (.int ((txB.getD 6 []).getD j 0)) ∈ prem1 := by
  intro j hj
  by_cases h0 : j < 4
  · have e0 := tx_el_6_0 (j - 0) (by omega)
    rw [show 0 + (j - 0) = j by omega] at e0
    exact List.mem_of_getElem? e0
  omega
theorem tx_el_7_0 : ∀ j, j < 4 → prem1[188 + j]? = some (Cond.eq (.elem (.field (tmS 7) "java/lang/String" "value" "[B") (.int (Int32.ofNat (0 + j)))) (.int ((txB.getD 7 []).getD (0 + j) 0))) := by decide +kernel
theorem tx_el_7 : ∀ j, j < 4 → Cond.eq (.elem (.field (tmS 7) "java/lang/String" "value" "[B") (.int (Int32.ofNat j))) (.int ((txB.getD 7 []).getD j 0)) ∈ prem1 := by
  intro j hj
  by_cases h0 : j < 4
  · have e0 := tx_el_7_0 (j - 0) (by omega)
    rw [show 0 + (j - 0) = j by omega] at e0
    exact List.mem_of_getElem? e0
  omega
theorem tx_el_8_0 : ∀ j, j < 6 → prem1[203 + j]? = some (Cond.eq (.elem (.field (tmS 8) "java/lang/String" "value" "[B") (.int (Int32.ofNat (0 + j)))) (.int ((txB.getD 8 []).getD (0 + j) 0))) := by decide +kernel
theorem tx_el_8 : ∀ j, j < 6 → Cond.eq (.elem (.field (tmS 8) "java/lang/String" "value" "[B") (.int (Int32.ofNat j))) (.int ((txB.getD 8 []).getD j 0)) ∈ prem1 := by
  intro j hj
  by_cases h0 : j < 6
  · have e0 := tx_el_8_0 (j - 0) (by omega)
    rw [show 0 + (j - 0) = j by omega] at e0
    exact List.mem_of_getElem? e0
  omega
theorem tx_el_9_0 : ∀ j, j < 4 → prem1[221 + j]? = some (Cond.eq (.elem (.field (tmS 9) "java/lang/String" "value" "[B") (.int (Int32.ofNat (0 + j)))) (.int ((txB.getD 9 []).getD (0 + j) 0))) := by decide +kernel
theorem tx_el_9 : ∀ j, j < 4 → Cond.eq (.elem (.field (tmS 9) "java/lang/String" "value" "[B") (.int (Int32.ofNat j))) (.int ((txB.getD 9 []).getD j 0)) ∈ prem1 := by
  intro j hj
  by_cases h0 : j < 4
  · have e0 := tx_el_9_0 (j - 0) (by omega)
    rw [show 0 + (j - 0) = j by omega] at e0
    exact List.mem_of_getElem? e0
  omega
theorem tx_el_10_0 : ∀ j, j < 6 → prem1[238 + j]? = some (Cond.eq (.elem (.field (tmS 10) "java/lang/String" "value" "[B") (.int (Int32.ofNat (0 + j)))) (.int ((txB.getD 10 []).getD (0 + j) 0))) := by decide +kernel
theorem tx_el_10 : ∀ j, j < 6 → Cond.eq (.elem (.field (tmS 10) "java/lang/String" "value" "[B") (.int (Int32.ofNat j))) (.int ((txB.getD 10 []).getD j 0)) ∈ prem1 := by
  intro j hj
  by_cases h0 : j < 6
  · have e0 := tx_el_10_0 (j - 0) (by omega)
    rw [show 0 + (j - 0) = j by omega] at e0
    exact List.mem_of_getElem? e0
  omega
theorem tx_el_11_0 : ∀ j, j < 5 → prem1[258 + j]? = some (Cond.eq (.elem (.field (tmS 11) "java/lang/String" "value" "[B") (.int (Int32.ofNat (0 + j)))) (.int ((txB.getD 11 []).getD (0 + j) 0))) := by decide +kernel
theorem tx_el_11 : ∀ j, j < 5 → Cond.eq (.elem (.field (tmS 11) "java/lang/String" "value" "[B") (.int (Int32.ofNat j))) (.int ((txB.getD 11 []).getD j 0)) ∈ prem1 := by
  intro j hj
  by_cases h0 : j < 5
  · have e0 := tx_el_11_0 (j - 0) (by omega)
    rw [show 0 + (j - 0) = j by omega] at e0
    exact List.mem_of_getElem? e0
  omega
theorem tx_el_12_0 : ∀ j, j < 2 → prem1[278 + j]? = some (Cond.eq (.elem (.field (tmS 12) "java/lang/String" "value" "[B") (.int (Int32.ofNat (0 + j)))) (.int ((txB.getD 12 []).getD (0 + j) 0))) := by decide +kernel
theorem tx_el_12 : ∀ j, j < 2 → Cond.eq (.elem (.field (tmS 12) "java/lang/String" "value" "[B") (.int (Int32.ofNat j))) (.int ((txB.getD 12 []).getD j 0)) ∈ prem1 := by
  intro j hj
  by_cases h0 : j < 2
  · have e0 := tx_el_12_0 (j - 0) (by omega)
    rw [show 0 + (j - 0) = j by omega] at e0
    exact List.mem_of_getElem? e0
  omega
theorem tx_el_13_0 : ∀ j, j < 3 → prem1[296 + j]? = some (Cond.eq (.elem (.field (tmS 13) "java/lang/String" "value" "[B") (.int (Int32.ofNat (0 + j)))) (.int ((txB.getD 13 []).getD (0 + j) 0))) := by decide +kernel
theorem tx_el_13 : ∀ j, j < 3 → Cond.eq (.elem (.field (tmS 13) "java/lang/String" "value" "[B") (.int (Int32.ofNat j))) (.int ((txB.getD 13 []).getD j 0)) ∈ prem1 := by
  intro j hj
  by_cases h0 : j < 3
  · have e0 := tx_el_13_0 (j - 0) (by omega)
    rw [show 0 + (j - 0) = j by omega] at e0
    exact List.mem_of_getElem? e0
  omega
theorem tx_el_14_0 : ∀ j, j < 3 → prem1[316 + j]? = some (Cond.eq (.elem (.field (tmS 14) "java/lang/String" "value" "[B") (.int (Int32.ofNat (0 + j)))) (.int ((txB.getD 14 []).getD (0 + j) 0))) := by decide +kernel
theorem tx_el_14 : ∀ j, j < 3 → Cond.eq (.elem (.field (tmS 14) "java/lang/String" "value" "[B") (.int (Int32.ofNat j))) (.int ((txB.getD 14 []).getD j 0)) ∈ prem1 := by
  intro j hj
  by_cases h0 : j < 3
  · have e0 := tx_el_14_0 (j - 0) (by omega)
    rw [show 0 + (j - 0) = j by omega] at e0
    exact List.mem_of_getElem? e0
  omega
theorem tx_el_15_0 : ∀ j, j < 2 → prem1[337 + j]? = some (Cond.eq (.elem (.field (tmS 15) "java/lang/String" "value" "[B") (.int (Int32.ofNat (0 + j)))) (.int ((txB.getD 15 []).getD (0 + j) 0))) := by decide +kernel
theorem tx_el_15 : ∀ j, j < 2 → Cond.eq (.elem (.field (tmS 15) "java/lang/String" "value" "[B") (.int (Int32.ofNat j))) (.int ((txB.getD 15 []).getD j 0)) ∈ prem1 := by
  intro j hj
  by_cases h0 : j < 2
  · have e0 := tx_el_15_0 (j - 0) (by omega)
    rw [show 0 + (j - 0) = j by omega] at e0
    exact List.mem_of_getElem? e0
  omega
theorem tx_el_16_0 : ∀ j, j < 4 → prem1[358 + j]? = some (Cond.eq (.elem (.field (tmS 16) "java/lang/String" "value" "[B") (.int (Int32.ofNat (0 + j)))) (.int ((txB.getD 16 []).getD (0 + j) 0))) := by decide +kernel
theorem tx_el_16 : ∀ j, j < 4 → Cond.eq (.elem (.field (tmS 16) "java/lang/String" "value" "[B") (.int (Int32.ofNat j))) (.int ((txB.getD 16 []).getD j 0)) ∈ prem1 := by
  intro j hj
  by_cases h0 : j < 4
  · have e0 := tx_el_16_0 (j - 0) (by omega)
    rw [show 0 + (j - 0) = j by omega] at e0
    exact List.mem_of_getElem? e0
  omega
theorem tx_el_17_0 : ∀ j, j < 4 → prem1[382 + j]? = some (Cond.eq (.elem (.field (tmS 17) "java/lang/String" "value" "[B") (.int (Int32.ofNat (0 + j)))) (.int ((txB.getD 17 []).getD (0 + j) 0))) := by decide +kernel
theorem tx_el_17 : ∀ j, j < 4 → Cond.eq (.elem (.field (tmS 17) "java/lang/String" "value" "[B") (.int (Int32.ofNat j))) (.int ((txB.getD 17 []).getD j 0)) ∈ prem1 := by
  intro j hj
  by_cases h0 : j < 4
  · have e0 := tx_el_17_0 (j - 0) (by omega)
    rw [show 0 + (j - 0) = j by omega] at e0
    exact List.mem_of_getElem? e0
  omega
theorem tx_el_18_0 : ∀ j, j < 4 → prem1[407 + j]? = some (Cond.eq (.elem (.field (tmS 18) "java/lang/String" "value" "[B") (.int (Int32.ofNat (0 + j)))) (.int ((txB.getD 18 []).getD (0 + j) 0))) := by decide +kernel
theorem tx_el_18 : ∀ j, j < 4 → Cond.eq (.elem (.field (tmS 18) "java/lang/String" "value" "[B") (.int (Int32.ofNat j))) (.int ((txB.getD 18 []).getD j 0)) ∈ prem1 := by
  intro j hj
  by_cases h0 : j < 4
  · have e0 := tx_el_18_0 (j - 0) (by omega)
    rw [show 0 + (j - 0) = j by omega] at e0
    exact List.mem_of_getElem? e0
  omega
theorem tx_el : ∀ i, i < txN → ∀ j, j < txL.getD i 0 → Cond.eq (.elem (.field (tmS i) "java/lang/String" "value" "[B") (.int (Int32.ofNat j))) (.int ((txB.getD i []).getD j 0)) ∈ prem1 := by
  intro i hi j hj
  match i, hi, hj with
  | 0, _, hj => exact tx_el_0 j (Nat.lt_of_lt_of_eq hj (by decide +kernel))
  | 1, _, hj => exact tx_el_1 j (Nat.lt_of_lt_of_eq hj (by decide +kernel))
  | 2, _, hj => exact tx_el_2 j (Nat.lt_of_lt_of_eq hj (by decide +kernel))
  | 3, _, hj => exact tx_el_3 j (Nat.lt_of_lt_of_eq hj (by decide +kernel))
  | 4, _, hj => exact tx_el_4 j (Nat.lt_of_lt_of_eq hj (by decide +kernel))
  | 5, _, hj => exact tx_el_5 j (Nat.lt_of_lt_of_eq hj (by decide +kernel))
  | 6, _, hj => exact tx_el_6 j (Nat.lt_of_lt_of_eq hj (by decide +kernel))
  | 7, _, hj => exact tx_el_7 j (Nat.lt_of_lt_of_eq hj (by decide +kernel))
  | 8, _, hj => exact tx_el_8 j (Nat.lt_of_lt_of_eq hj (by decide +kernel))
  | 9, _, hj => exact tx_el_9 j (Nat.lt_of_lt_of_eq hj (by decide +kernel))
  | 10, _, hj => exact tx_el_10 j (Nat.lt_of_lt_of_eq hj (by decide +kernel))
  | 11, _, hj => exact tx_el_11 j (Nat.lt_of_lt_of_eq hj (by decide +kernel))
  | 12, _, hj => exact tx_el_12 j (Nat.lt_of_lt_of_eq hj (by decide +kernel))
  | 13, _, hj => exact tx_el_13 j (Nat.lt_of_lt_of_eq hj (by decide +kernel))
  | 14, _, hj => exact tx_el_14 j (Nat.lt_of_lt_of_eq hj (by decide +kernel))
  | 15, _, hj => exact tx_el_15 j (Nat.lt_of_lt_of_eq hj (by decide +kernel))
  | 16, _, hj => exact tx_el_16 j (Nat.lt_of_lt_of_eq hj (by decide +kernel))
  | 17, _, hj => exact tx_el_17 j (Nat.lt_of_lt_of_eq hj (by decide +kernel))
  | 18, _, hj => exact tx_el_18 j (Nat.lt_of_lt_of_eq hj (by decide +kernel))
  | i + 19, hi, _ => exact absurd hi (by show ¬ i + 19 < 19; omega)
def neP0 : List Nat := []
theorem tx_ne0 : ∀ i, i < 0 → (prem1[neP0.getD i 0]? = some (Cond.not (Cond.eq (tmS i) (tmS 0))) ∨ prem1[neP0.getD i 0]? = some (Cond.not (Cond.eq (tmS 0) (tmS i)))) := by decide +kernel
def neP1 : List Nat := [120]
theorem tx_ne1 : ∀ i, i < 1 → (prem1[neP1.getD i 0]? = some (Cond.not (Cond.eq (tmS i) (tmS 1))) ∨ prem1[neP1.getD i 0]? = some (Cond.not (Cond.eq (tmS 1) (tmS i)))) := by decide +kernel
def neP2 : List Nat := [128, 129]
theorem tx_ne2 : ∀ i, i < 2 → (prem1[neP2.getD i 0]? = some (Cond.not (Cond.eq (tmS i) (tmS 2))) ∨ prem1[neP2.getD i 0]? = some (Cond.not (Cond.eq (tmS 2) (tmS i)))) := by decide +kernel
def neP3 : List Nat := [139, 140, 141]
theorem tx_ne3 : ∀ i, i < 3 → (prem1[neP3.getD i 0]? = some (Cond.not (Cond.eq (tmS i) (tmS 3))) ∨ prem1[neP3.getD i 0]? = some (Cond.not (Cond.eq (tmS 3) (tmS i)))) := by decide +kernel
def neP4 : List Nat := [151, 152, 153, 154]
theorem tx_ne4 : ∀ i, i < 4 → (prem1[neP4.getD i 0]? = some (Cond.not (Cond.eq (tmS i) (tmS 4))) ∨ prem1[neP4.getD i 0]? = some (Cond.not (Cond.eq (tmS 4) (tmS i)))) := by decide +kernel
def neP5 : List Nat := [165, 166, 167, 168, 169]
theorem tx_ne5 : ∀ i, i < 5 → (prem1[neP5.getD i 0]? = some (Cond.not (Cond.eq (tmS i) (tmS 5))) ∨ prem1[neP5.getD i 0]? = some (Cond.not (Cond.eq (tmS 5) (tmS i)))) := by decide +kernel
def neP6 : List Nat := [178, 179, 180, 181, 182, 183]
theorem tx_ne6 : ∀ i, i < 6 → (prem1[neP6.getD i 0]? = some (Cond.not (Cond.eq (tmS i) (tmS 6))) ∨ prem1[neP6.getD i 0]? = some (Cond.not (Cond.eq (tmS 6) (tmS i)))) := by decide +kernel
def neP7 : List Nat := [192, 193, 194, 195, 196, 197, 198]
theorem tx_ne7 : ∀ i, i < 7 → (prem1[neP7.getD i 0]? = some (Cond.not (Cond.eq (tmS i) (tmS 7))) ∨ prem1[neP7.getD i 0]? = some (Cond.not (Cond.eq (tmS 7) (tmS i)))) := by decide +kernel
def neP8 : List Nat := [209, 210, 211, 212, 213, 214, 215, 216]
theorem tx_ne8 : ∀ i, i < 8 → (prem1[neP8.getD i 0]? = some (Cond.not (Cond.eq (tmS i) (tmS 8))) ∨ prem1[neP8.getD i 0]? = some (Cond.not (Cond.eq (tmS 8) (tmS i)))) := by decide +kernel
def neP9 : List Nat := [225, 226, 227, 228, 229, 230, 231, 232, 233]
theorem tx_ne9 : ∀ i, i < 9 → (prem1[neP9.getD i 0]? = some (Cond.not (Cond.eq (tmS i) (tmS 9))) ∨ prem1[neP9.getD i 0]? = some (Cond.not (Cond.eq (tmS 9) (tmS i)))) := by decide +kernel
def neP10 : List Nat := [244, 245, 246, 247, 248, 249, 250, 251, 252, 253]
theorem tx_ne10 : ∀ i, i < 10 → (prem1[neP10.getD i 0]? = some (Cond.not (Cond.eq (tmS i) (tmS 10))) ∨ prem1[neP10.getD i 0]? = some (Cond.not (Cond.eq (tmS 10) (tmS i)))) := by decide +kernel
def neP11 : List Nat := [263, 264, 265, 266, 267, 268, 269, 270, 271, 272, 273]
theorem tx_ne11 : ∀ i, i < 11 → (prem1[neP11.getD i 0]? = some (Cond.not (Cond.eq (tmS i) (tmS 11))) ∨ prem1[neP11.getD i 0]? = some (Cond.not (Cond.eq (tmS 11) (tmS i)))) := by decide +kernel
def neP12 : List Nat := [280, 281, 282, 283, 284, 285, 286, 287, 288, 289, 290, 291]
theorem tx_ne12 : ∀ i, i < 12 → (prem1[neP12.getD i 0]? = some (Cond.not (Cond.eq (tmS i) (tmS 12))) ∨ prem1[neP12.getD i 0]? = some (Cond.not (Cond.eq (tmS 12) (tmS i)))) := by decide +kernel
def neP13 : List Nat := [299, 300, 301, 302, 303, 304, 305, 306, 307, 308, 309, 310, 311]
theorem tx_ne13 : ∀ i, i < 13 → (prem1[neP13.getD i 0]? = some (Cond.not (Cond.eq (tmS i) (tmS 13))) ∨ prem1[neP13.getD i 0]? = some (Cond.not (Cond.eq (tmS 13) (tmS i)))) := by decide +kernel
def neP14 : List Nat := [319, 320, 321, 322, 323, 324, 325, 326, 327, 328, 329, 330, 331, 332]
theorem tx_ne14 : ∀ i, i < 14 → (prem1[neP14.getD i 0]? = some (Cond.not (Cond.eq (tmS i) (tmS 14))) ∨ prem1[neP14.getD i 0]? = some (Cond.not (Cond.eq (tmS 14) (tmS i)))) := by decide +kernel
def neP15 : List Nat := [339, 340, 341, 342, 343, 344, 345, 346, 347, 348, 349, 350, 351, 352, 353]
theorem tx_ne15 : ∀ i, i < 15 → (prem1[neP15.getD i 0]? = some (Cond.not (Cond.eq (tmS i) (tmS 15))) ∨ prem1[neP15.getD i 0]? = some (Cond.not (Cond.eq (tmS 15) (tmS i)))) := by decide +kernel
def neP16 : List Nat := [362, 363, 364, 365, 366, 367, 368, 369, 370, 371, 372, 373, 374, 375, 376, 377]
theorem tx_ne16 : ∀ i, i < 16 → (prem1[neP16.getD i 0]? = some (Cond.not (Cond.eq (tmS i) (tmS 16))) ∨ prem1[neP16.getD i 0]? = some (Cond.not (Cond.eq (tmS 16) (tmS i)))) := by decide +kernel
def neP17 : List Nat := [386, 387, 388, 389, 390, 391, 392, 393, 394, 395, 396, 397, 398, 399, 400, 401, 402]
theorem tx_ne17 : ∀ i, i < 17 → (prem1[neP17.getD i 0]? = some (Cond.not (Cond.eq (tmS i) (tmS 17))) ∨ prem1[neP17.getD i 0]? = some (Cond.not (Cond.eq (tmS 17) (tmS i)))) := by decide +kernel
def neP18 : List Nat := [411, 412, 413, 414, 415, 416, 417, 418, 419, 420, 421, 422, 423, 424, 425, 426, 427, 428]
theorem tx_ne18 : ∀ i, i < 18 → (prem1[neP18.getD i 0]? = some (Cond.not (Cond.eq (tmS i) (tmS 18))) ∨ prem1[neP18.getD i 0]? = some (Cond.not (Cond.eq (tmS 18) (tmS i)))) := by decide +kernel
theorem tx_nl : ∀ j, j < txN → ∀ i, i < j → (Cond.not (Cond.eq (tmS i) (tmS j)) ∈ prem1 ∨ Cond.not (Cond.eq (tmS j) (tmS i)) ∈ prem1) := by
  intro j hj i hi
  match j, hj, hi with
  | 0, _, hi => exact (tx_ne0 i hi).imp List.mem_of_getElem? List.mem_of_getElem?
  | 1, _, hi => exact (tx_ne1 i hi).imp List.mem_of_getElem? List.mem_of_getElem?
  | 2, _, hi => exact (tx_ne2 i hi).imp List.mem_of_getElem? List.mem_of_getElem?
  | 3, _, hi => exact (tx_ne3 i hi).imp List.mem_of_getElem? List.mem_of_getElem?
  | 4, _, hi => exact (tx_ne4 i hi).imp List.mem_of_getElem? List.mem_of_getElem?
  | 5, _, hi => exact (tx_ne5 i hi).imp List.mem_of_getElem? List.mem_of_getElem?
  | 6, _, hi => exact (tx_ne6 i hi).imp List.mem_of_getElem? List.mem_of_getElem?
  | 7, _, hi => exact (tx_ne7 i hi).imp List.mem_of_getElem? List.mem_of_getElem?
  | 8, _, hi => exact (tx_ne8 i hi).imp List.mem_of_getElem? List.mem_of_getElem?
  | 9, _, hi => exact (tx_ne9 i hi).imp List.mem_of_getElem? List.mem_of_getElem?
  | 10, _, hi => exact (tx_ne10 i hi).imp List.mem_of_getElem? List.mem_of_getElem?
  | 11, _, hi => exact (tx_ne11 i hi).imp List.mem_of_getElem? List.mem_of_getElem?
  | 12, _, hi => exact (tx_ne12 i hi).imp List.mem_of_getElem? List.mem_of_getElem?
  | 13, _, hi => exact (tx_ne13 i hi).imp List.mem_of_getElem? List.mem_of_getElem?
  | 14, _, hi => exact (tx_ne14 i hi).imp List.mem_of_getElem? List.mem_of_getElem?
  | 15, _, hi => exact (tx_ne15 i hi).imp List.mem_of_getElem? List.mem_of_getElem?
  | 16, _, hi => exact (tx_ne16 i hi).imp List.mem_of_getElem? List.mem_of_getElem?
  | 17, _, hi => exact (tx_ne17 i hi).imp List.mem_of_getElem? List.mem_of_getElem?
  | 18, _, hi => exact (tx_ne18 i hi).imp List.mem_of_getElem? List.mem_of_getElem?
  | j + 19, hj, _ => exact absurd hj (by show ¬ j + 19 < 19; omega)
theorem tx_ne : ∀ i, i < txN → ∀ j, j < txN → i ≠ j → (Cond.not (Cond.eq (tmS i) (tmS j)) ∈ prem1 ∨ Cond.not (Cond.eq (tmS j) (tmS i)) ∈ prem1) := by
  intro i hi j hj hn
  rcases Nat.lt_or_gt_of_ne hn with h | h
  · exact tx_nl j hj i h
  · exact (tx_nl i hi j h).symm
def kaT : Term := .static "UnlikeNeighbours" "KIND_ABOVE" "[I"
theorem ka_ar : Cond.arrayOf kaT .int ∈ prem1 := by decide +kernel
theorem ka_le : Cond.eq (.length kaT) (.int 6) ∈ prem1 := by decide +kernel
theorem ka_el : ∀ j, j < 6 → Cond.eq (.elem kaT (.int (Int32.ofNat j))) (.int (kaF j)) ∈ prem1 := by decide +kernel
theorem cs_eq : Cond.eq (.static "java/lang/String" "COMPACT_STRINGS" "Z") (.int 1) ∈ prem1 := by decide +kernel
theorem fm_re : Cond.isRef (.static "jdk/internal/util/Preconditions" "SIOOBE_FORMATTER" "Ljava/util/function/BiFunction;") ∈ prem1 := by decide +kernel
theorem tx_rf : ∀ (i : Nat) (q : String × Nat × String), txK[i]? = some q → Cond.stringRef q.1 q.2.1 q.2.2 ∈ lw_tbl := by
  intro i q h
  match i, h with
  | 0, h => cases h; exact (l2_in 169 (by decide +kernel))
  | 1, h => cases h; exact (l5_in 70 (by decide +kernel))
  | 2, h => cases h; exact (l5_in 71 (by decide +kernel))
  | 3, h => cases h; exact (l5_in 72 (by decide +kernel))
  | 4, h => cases h; exact (l5_in 73 (by decide +kernel))
  | 5, h => cases h; exact (l5_in 74 (by decide +kernel))
  | 6, h => cases h; exact (l5_in 75 (by decide +kernel))
  | 7, h => cases h; exact (l5_in 76 (by decide +kernel))
  | 8, h => cases h; exact (l5_in 77 (by decide +kernel))
  | 9, h => cases h; exact (l5_in 78 (by decide +kernel))
  | 10, h => cases h; exact (l5_in 79 (by decide +kernel))
  | 11, h => cases h; exact (l5_in 80 (by decide +kernel))
  | 12, h => cases h; exact (l5_in 225 (by decide +kernel))
  | 13, h => cases h; exact (l5_in 238 (by decide +kernel))
  | 14, h => cases h; exact (l6_in 12 (by decide +kernel))
  | 15, h => cases h; exact (l6_in 13 (by decide +kernel))
  | 16, h => cases h; exact (l6_in 14 (by decide +kernel))
  | 17, h => cases h; exact (l6_in 15 (by decide +kernel))
  | 18, h => cases h; exact (l6_in 16 (by decide +kernel))
  | i + 19, h => simp [txK] at h
theorem kn_start {s : State} {args : Array Value} (hts : ∀ w ∈ lw_tbl, w.before args s = true) : ∀ (c : Nat) (q : vw_C), classes[c]? = some q → ∃ (cC : ClassId) (iS : Nat → Nat), u_Kn s q.1 q.2.1 q.2.2 cC iS := by
  intro c q h
  match c, h with
  | 0, h => cases h; exact u_known (n := 5) hts (fun w hw => tb_sub (fc0.2.2.2.2 w hw)) (hts _ (l4_in 139 (by decide +kernel)))
  | 1, h => cases h; exact u_known (n := 5) hts (fun w hw => tb_sub (fc1.2.2.2.2 w hw)) (hts _ (l4_in 127 (by decide +kernel)))
  | 2, h => cases h; exact u_known (n := 11) hts (fun w hw => tb_sub (fc2.2.2.2.2 w hw)) (hts _ (l1_in 171 (by decide +kernel)))
  | 3, h => cases h; exact u_known (n := 7) hts (fun w hw => tb_sub (fc3.2.2.2.2 w hw)) (hts _ (l1_in 139 (by decide +kernel)))
  | 4, h => cases h; exact u_known (n := 5) hts (fun w hw => tb_sub (fc4.2.2.2.2 w hw)) (hts _ (l4_in 163 (by decide +kernel)))
  | 5, h => cases h; exact u_known (n := 8) hts (fun w hw => tb_sub (fc5.2.2.2.2 w hw)) (hts _ (l1_in 36 (by decide +kernel)))
  | 6, h => cases h; exact u_known (n := 5) hts (fun w hw => tb_sub (fc6.2.2.2.2 w hw)) (hts _ (l4_in 151 (by decide +kernel)))
  | 7, h => cases h; exact u_known (n := 16) hts (fun w hw => tb_sub (fc7.2.2.2.2 w hw)) (hts _ (l1_in 30 (by decide +kernel)))
  | 8, h => cases h; exact u_known (n := 3) hts (fun w hw => tb_sub (fc8.2.2.2.2 w hw)) (hts _ (l1_in 215 (by decide +kernel)))
  | 9, h => cases h; exact u_known (n := 5) hts (fun w hw => tb_sub (fc9.2.2.2.2 w hw)) (hts _ (l4_in 175 (by decide +kernel)))
  | 10, h => cases h; exact u_known (n := 5) hts (fun w hw => tb_sub (fc10.2.2.2.2 w hw)) (hts _ (l4_in 89 (by decide +kernel)))
  | 11, h => cases h; exact u_known (n := 12) hts (fun w hw => tb_sub (fc11.2.2.2.2 w hw)) (hts _ (l1_in 22 (by decide +kernel)))
  | 12, h => cases h; exact u_known (n := 34) hts (fun w hw => tb_sub (fc12.2.2.2.2 w hw)) (hts _ (l5_in 63 (by decide +kernel)))
  | c + 13, h => simp [classes] at h
theorem ar_start {s : State} {args : Array Value} (hts : ∀ w ∈ lw_tbl, w.before args s = true) : ∀ t : Nat, ∃ cA : ClassId, 20 ≤ t → t < 25 → ArrOfT s cA (aty t) ∧ va_RA s cA (aty t) := by
  intro t
  have prim : ∀ ty : FieldType, Cond.arrayClass ty ∈ lw_tbl → (∀ C, ty ≠ .object C) → ∃ cA : ClassId, ArrOfT s cA ty ∧ va_RA s cA ty := by
    intro ty hw hne
    obtain ⟨c, k, comp, h1, h2, h3⟩ := Cond.arrayClass_spec (hts _ hw)
    refine ⟨c, fun n z => ⟨fun _ h => (by cases h), k, h2, comp, h3⟩, ?_⟩
    cases ty with
    | object C => exact absurd rfl (hne C)
    | _ => exact h1
  have obj : ∀ C : String, Cond.arrayOver (.object C) ∈ lw_tbl → ∃ cA : ClassId, ArrOfT s cA (.object C) ∧ va_RA s cA (.object C) := by
    intro C hw
    obtain ⟨comp, c, k, h1, -, h2, h3, h4⟩ := Cond.arrayOver_spec (hts _ hw)
    exact ⟨c, fun n z => ⟨fun _ h => (by cases h), k, h2, comp, h3⟩, k, comp, h2, h3, h1, h4⟩
  by_cases h20 : t = 20
  · subst h20
    obtain ⟨c, h⟩ := prim .int (l1_in 68 (by decide +kernel)) (fun _ h => by cases h)
    exact ⟨c, fun _ _ => h⟩
  by_cases h21 : t = 21
  · subst h21
    obtain ⟨c, h⟩ := prim .byte (l1_in 169 (by decide +kernel)) (fun _ h => by cases h)
    exact ⟨c, fun _ _ => h⟩
  by_cases h22 : t = 22
  · subst h22
    obtain ⟨c, h⟩ := prim .boolean (l1_in 212 (by decide +kernel)) (fun _ h => by cases h)
    exact ⟨c, fun _ _ => h⟩
  by_cases h23 : t = 23
  · subst h23
    obtain ⟨c, h⟩ := obj "UnlikeNeighbours$Sheet" (l1_in 214 (by decide +kernel))
    exact ⟨c, fun _ _ => h⟩
  by_cases h24 : t = 24
  · subst h24
    obtain ⟨c, h⟩ := obj "java/lang/String" (l5_in 69 (by decide +kernel))
    exact ⟨c, fun _ _ => h⟩
  exact ⟨0, fun a b => by omega⟩
theorem ke_start {s : State} {args : Array Value} (hts : ∀ w ∈ lw_tbl, w.before args s = true) (hgv : (Jvm.Cond.and given_1 narrow_1).before args s = true) : ∃ E : Ev, KE E ∧ E.1 = s.heap.size ∧ E.2.2.2.2.1 = s := by
  have hp : ∀ w ∈ prem1, w.before args s = true := flat_of_before _ hgv
  have hA : ∀ a : Nat, a < s.heap.size → ¬ s.heap.size ≤ a := fun a h => Nat.not_le.mpr h
  have hkn : ∀ c : Nat, ∃ x : ClassId × (Nat → Nat), ∀ q, classes[c]? = some q → u_Kn s q.1 q.2.1 q.2.2 x.1 x.2 := by
    intro c
    cases hq : classes[c]? with
    | none => exact ⟨(0, fun _ => 0), fun q h => by cases h⟩
    | some q =>
      obtain ⟨cC, iS, h⟩ := kn_start hts c q hq
      exact ⟨(cC, iS), fun q2 h2 => by cases h2; exact h⟩
  have har := ar_start hts
  obtain ⟨adK, adV, hv, hev⟩ := vk_Sof (args := args) (s := s) (N := txN) (tm := tmS) (len := txL) (byt := txB) (A := fun q => s.heap.size ≤ q) tx_len (fun i hi => hp _ (tx_ex i hi)) (fun i hi => hp _ (tx_co i hi)) (fun i hi => hp _ (tx_ar i hi)) (fun i hi => hp _ (tx_le i hi)) (fun i hi j hj => hp _ (tx_el i hi j hj)) (fun i j hi hj hn => (tx_ne i hi j hj hn).imp (hp _) (hp _)) hA
  have eqv : ∀ {t : Term} {x : Int32}, (Cond.eq t (.int x)).before args s = true → t.eval args s none [] s = some (.int x) := by
    intro t x h
    obtain ⟨w, h1, h2⟩ := Cond.eq_one h
    cases (show (Term.int x).eval args s none [] s = some (.int x) from rfl).symm.trans h2
    exact h1
  obtain ⟨ka, hka, hkT⟩ := va_Tof (args := args) (s := s) (tm := kaT) (ty := .int) (N := 6) (f := fun j => .int (kaF j)) (A := fun q => s.heap.size ≤ q) (by decide) (hp _ ka_ar) (eqv (hp _ ka_le)) (fun j hj => eqv (hp _ (ka_el j hj))) hA
  refine ⟨(s.heap.size, adK, (fun c => (Classical.choose (hkn c)).1, fun c => (Classical.choose (hkn c)).2), fun t => Classical.choose (har t), s, ka), ⟨⟨args, hts⟩, rfl, fun c q h => Classical.choose_spec (hkn c) q h, fun t h1 h2 => Classical.choose_spec (har t) h1 h2, ⟨adV, hv⟩, ?_, ?_, hkT, ?_, ?_, ?_, ?_⟩, rfl, rfl⟩
  · intro i q h
    have hi : i < txN := (List.getElem?_eq_some_iff.mp h).1
    have e1 := hev i hi
    have e2 : tmS i = .string q.1 q.2.1 := by simp [tmS, h]
    rw [e2] at e1
    exact vk_R.of (hts _ (tx_rf i q h)) e1
  · exact va_Zof (hts _ (l2_in 81 (by decide +kernel))) (hts _ (l1_in 1 (by decide +kernel))) hka hA
  · exact va_AO.of (hts _ (l1_in 214 (by decide +kernel)))
  · exact va_AO.of (hts _ (l5_in 69 (by decide +kernel)))
  · exact va_Zof (hts _ (l2_in 179 (by decide +kernel))) (hts _ (l1_in 9 (by decide +kernel))) (eqv (hp _ cs_eq)) hA
  · exact va_Zqof (hts _ (l2_in 195 (by decide +kernel))) (hts _ (l1_in 11 (by decide +kernel))) (hp _ fm_re) hA
/-- the law's program, pure, answers 1 on every script -/
def LawPure : Prop := ∀ (L : Nat) (xs : Nat → Int32), L ≤ 2560 → f_L L xs [] (fun _ _ => none) (fun _ _ => 0) = some 1
theorem start_of (hLP : LawPure) {p : Program} {e : Env} {s : State} {m : MethodId} {below : List Frame} {meth : Method} {c : Code} (l : Launch) {b L : Nat} {xs : Nat → Int32} (hL : L ≤ 2560) (C0 : lw_At p s m meth c b L xs) : W p l e room_1 s m #[Value.ref b] below meth c s.heap [] 0 0 (lw_Z below #[Value.ref b] s) (entryFrame m ([Value.ref b] : List Value).toArray 4) := by
  obtain ⟨hx, hb, hr, hml, hown, hts, hX, hbl, hlocks, hgv⟩ := id C0
  obtain ⟨E, hK, h1, h2⟩ := ke_start hts hgv
  have hW0 : E.2.2.2.2.1.WarmedH s.vm := by rw [h2]; exact State.WarmedH.refl s
  have C : Cx E RL code 4 p s m c := ⟨hx, hb, hml, hown, hW0, hK⟩
  have hl := lv_entry ([.ref b]) (n := 4) (Nat.le_of_ble_eq_true rfl)
  rw [lg_entry_eq]
  exact b_L (L := L) (xs := xs) C hr hlocks h2 hX (by rw [h1]; exact hbl) [] (fun _ _ => none) (fun _ _ => 0) (hLP L xs hL) s.heap [] _ ⟨by rw [h1]; rfl, fun q _ => by rw [h2], fun k c h => by simp at h⟩ (fun q hq => by cases hq) hl
