/-! A SHED AS PLAIN DATA; what its questions answer; what cells hold it -/
abbrev Dt : Type := (Nat) × (Nat → Nat) × (Nat → Nat) × (Nat → Nat) × (Nat → Nat) × (Nat) × (Nat → Nat) × (Nat) × (Nat) × (Int32) × (Nat) × (Nat → Nat) × (Nat → Nat) × (Nat → Nat) × (Nat → List (Nat × Nat × Nat) × List (Nat × Nat × Nat)) × (Nat) × (Nat → Nat) × (Nat → Nat)
def d_n (D : Dt) : Nat := D.1
def d_kd (D : Dt) : Nat → Nat := D.2.1
def d_by (D : Dt) : Nat → Nat := D.2.2.1
def d_cl (D : Dt) : Nat → Nat := D.2.2.2.1
def d_wo (D : Dt) : Nat → Nat := D.2.2.2.2.1
def d_o (D : Dt) : Nat := D.2.2.2.2.2.1
def d_ln (D : Dt) : Nat → Nat := D.2.2.2.2.2.2.1
def d_ga (D : Dt) : Nat := D.2.2.2.2.2.2.2.1
def d_da (D : Dt) : Nat := D.2.2.2.2.2.2.2.2.1
def d_z (D : Dt) : Int32 := D.2.2.2.2.2.2.2.2.2.1
def d_nr (D : Dt) : Nat := D.2.2.2.2.2.2.2.2.2.2.1
def d_rk (D : Dt) : Nat → Nat := D.2.2.2.2.2.2.2.2.2.2.2.1
def d_rt (D : Dt) : Nat → Nat := D.2.2.2.2.2.2.2.2.2.2.2.2.1
def d_rb (D : Dt) : Nat → Nat := D.2.2.2.2.2.2.2.2.2.2.2.2.2.1
def d_rx (D : Dt) : Nat → List (Nat × Nat × Nat) × List (Nat × Nat × Nat) := D.2.2.2.2.2.2.2.2.2.2.2.2.2.2.1
def d_np (D : Dt) : Nat := D.2.2.2.2.2.2.2.2.2.2.2.2.2.2.2.1
def d_pg (D : Dt) : Nat → Nat := D.2.2.2.2.2.2.2.2.2.2.2.2.2.2.2.2.1
def d_pc (D : Dt) : Nat → Nat := D.2.2.2.2.2.2.2.2.2.2.2.2.2.2.2.2.2
/-- the steps of a rule's condition: those of the class, and those of the reference (that has every not) -/
def d_rc (D : Dt) (r : Nat) : List (Nat × Nat × Nat) := (d_rx D r).1
def d_rr (D : Dt) (r : Nat) : List (Nat × Nat × Nat) := (d_rx D r).2
def nearb (D : Dt) (g h : Nat) : Bool := decide (g - h + (h - g) ≤ d_ga D)
def stnd (D : Dt) (g h : Nat) : Bool := decide (d_kd D g = 1) && (List.range (d_n D)).any (fun t => t != g && (t != h && (d_cl D t == d_cl D g && nearb D t h)))
def bes (D : Dt) (g h : Nat) : Bool := d_kd D g != 3 && (d_kd D h != 3 && (nearb D g h || (stnd D g h || stnd D h g)))
def topb (D : Dt) (s g : Nat) : Bool := s.testBit g && (List.range (d_n D)).all (fun h => !(decide (g < h) && (s.testBit h && d_by D h == d_by D g)))
/-- l: 0 for none, else the last one and 1 -/
def mayb (D : Dt) (s l g : Nat) : Bool := topb D s g && (l == 0 || !(l - 1 != g && bes D (l - 1) g))
def isin (D : Dt) (g : Nat) : Bool := decide (g < d_n D) && !((List.range (d_o D)).any (fun k => d_ln D k == g))
def insm (D : Dt) : Nat := mk (isin D) 9
def lst (D : Dt) : Nat := if d_o D = 0 then 0 else d_ln D (d_o D - 1) + 1
def tokv (D : Dt) (g t : Nat) : Nat := if t < 10000 then t else if t = 10000 then d_ga D else if t = 10001 then d_da D else if t = 10002 then d_cl D g else if t = 10003 then d_wo D g else g
def cmpb (op a b : Nat) : Bool := if op = 20002 then decide (a < b) else if op = 20003 then decide (a = b) else decide (b < a)
def evb (D : Dt) (g : Nat) (st : List Bool) (c : Nat × Nat × Nat) : List Bool :=
  if c.1 = 20005 then (match st with | x :: t => (!x) :: t | [] => [])
  else if c.1 = 20001 then (match st with | y :: x :: t => (x && y) :: t | t => t)
  else if c.1 = 20000 then (match st with | y :: x :: t => (x || y) :: t | t => t)
  else cmpb c.1 (tokv D g c.2.1) (tokv D g c.2.2) :: st
def cond (D : Dt) (g : Nat) (cs : List (Nat × Nat × Nat)) : Bool := (cs.foldl (evb D g) []).headD true
def und (k a : Nat) : Bool := a == 0 || (a == k || ((k == 3 && a == 2) || (k == 5 && a == 4)))
def ruleFor (D : Dt) (g : Nat) : Option Nat := (List.range (d_nr D)).find? (fun r => und (d_kd D g) (d_rk D r) && cond D g (d_rc D r))
def wof (D : Dt) (g : Nat) : Nat := match ruleFor D g with
  | none => d_wo D g
  | some r => if d_rt D r = 2 then 0 else if d_rt D r = 0 then d_wo D g + d_rb D r else d_wo D g - d_rb D r
def fee (D : Dt) (g : Nat) : Nat := if d_kd D g = 1 then wof D g / 2 else if d_kd D g = 2 then wof D g + 10 * d_da D else if d_kd D g = 3 then wof D g + 10 * d_da D - d_cl D g else if d_kd D g = 4 then wof D g + 50 else 2 * (wof D g + 50)
/-- how many steps stand ahead of rule r's -/
def stR (rc : Nat → List (Nat × Nat × Nat)) : Nat → Nat
  | 0 => 0
  | r + 1 => stR rc r + (rc r).length
def stA (D : Dt) (r : Nat) : Nat := stR (d_rc D) r
/-- the reference's tokens of steps -/
def tks (cs : List (Nat × Nat × Nat)) : List Nat := cs.flatMap (fun c => if c.1 = 20002 ∨ c.1 = 20003 ∨ c.1 = 20004 then [c.2.1, c.2.2, c.1] else [c.1])
def tkR (rc : Nat → List (Nat × Nat × Nat)) : Nat → Nat
  | 0 => 0
  | r + 1 => tkR rc r + (tks (rc r)).length
def tkA (D : Dt) (r : Nat) : Nat := tkR (d_rr D) r
/-- heights of the pile: none where a step can't be taken, or 20 is passed -/
def hgt (h : Option Nat) (c : Nat × Nat × Nat) : Option Nat := match h with
  | none => none
  | some k => if c.1 = 20005 then (if 1 ≤ k then some k else none)
    else if c.1 = 20000 ∨ c.1 = 20001 then (if 2 ≤ k then some (k - 1) else none)
    else if c.1 = 20002 ∨ c.1 = 20003 ∨ c.1 = 20004 then (if k < 20 ∧ c.2.1 < 10005 ∧ c.2.2 < 10005 then some (k + 1) else none) else none
def wfs (cs : List (Nat × Nat × Nat)) : Prop := cs = [] ∨ cs.foldl hgt (some 0) = some 1
/-- the class' numbers of a step -/
def cTok (t : Nat) : Nat := if t < 10000 then t else t + 13
def cSgn (op : Nat) : Nat := if op = 20000 then 10007 else if op = 20001 then 10008 else if op = 20005 then 10009 else op + 58
def isCmp (op : Nat) : Bool := op == 20002 || (op == 20003 || op == 20004)
def VD (D : Dt) : Prop :=
  d_n D ≤ 9 ∧ d_o D ≤ d_n D ∧ (∀ k, k < d_o D → d_ln D k < d_n D) ∧ (∀ i j, i < d_o D → j < d_o D → d_ln D i = d_ln D j → i = j) ∧
  (∀ g, g < d_n D → 1 ≤ d_kd D g ∧ d_kd D g ≤ 5 ∧ d_by D g ≤ 2 ∧ d_cl D g ≤ 9 ∧ 1 ≤ d_wo D g ∧ d_wo D g ≤ 999) ∧
  (1 ≤ d_ga D ∧ d_ga D ≤ 3 ∧ d_da D ≤ 9) ∧
  (d_nr D ≤ 8 ∧ stA D (d_nr D) ≤ 128 ∧ tkA D (d_nr D) ≤ 200 ∧ ∀ r, r < d_nr D → d_rk D r ≤ 5 ∧ d_rt D r ≤ 2 ∧ d_rb D r ≤ 999 ∧ wfs (d_rc D r) ∧ wfs (d_rr D r) ∧ ∀ (E : Dt) (g : Nat), cond E g (d_rr D r) = cond E g (d_rc D r)) ∧
  (d_np D ≤ 6 ∧ ∀ k, k < d_np D → d_pg D k < d_n D ∧ d_pc D k ≤ 1)
def mates (D : Dt) (g : Nat) : Nat := mk (fun h => h != g && bes D g h) (d_n D)
def chI (D : Dt) (r : Nat) : Int32 := if d_rt D r = 2 then -999 else if d_rt D r = 0 then nI (d_rb D r) else -nI (d_rb D r)
/-- the class' shed at cell b holds D (all but the mates) -/
def CR0 (I : Iw) (b : Nat) (D : Dt) : Prop :=
  I b 5 = nI (d_n D) ∧ I b 6 = nI (insm D) ∧ I b 8 = nI (d_o D) ∧ I b 9 = nI (d_ga D) ∧ I b 10 = nI (d_da D) ∧ I b 14 = nI (d_np D) ∧ I b 15 = d_z D ∧
  (∀ g, g < d_n D → I (b + 1) g = nI (d_kd D g) ∧ I (b + 2) g = nI (d_by D g) ∧ I (b + 3) g = nI (d_cl D g) ∧ I (b + 4) g = nI (d_wo D g)) ∧
  (∀ k, k < d_o D → I (b + 6) k = nI (d_ln D k)) ∧
  (I (b + 7) 0 = nI (d_nr D) ∧ I (b + 7) 4 = nI (stA D (d_nr D)) ∧ ∀ r, r < d_nr D → I (b + 8) r = nI (d_rk D r) ∧ I (b + 9) r = chI D r ∧ I (b + 10) r = nI (stA D (r + 1)) ∧
    ∀ i c, (d_rc D r)[i]? = some c → I (b + 11) (stA D r + i) = nI (cSgn c.1) ∧ (isCmp c.1 = true → I (b + 12) (stA D r + i) = nI (cTok c.2.1) ∧ I (b + 13) (stA D r + i) = nI (cTok c.2.2))) ∧
  (∀ k, k < d_np D → I (b + 14) k = nI (d_pg D k) ∧ I (b + 15) k = nI (d_pc D k))
def CRm (I : Iw) (b : Nat) (D : Dt) : Prop := ∀ g, g < d_n D → I (b + 5) g = nI (mates D g)
def CR (I : Iw) (b : Nat) (D : Dt) : Prop := CR0 I b D ∧ CRm I b D
/-- the reference's row at cell a holds D -/
def MR (I : Iw) (a : Nat) (D : Dt) : Prop :=
  I a 0 = nI (d_ga D) ∧ I a 1 = nI (d_da D) ∧ I a 2 = d_z D ∧ I a 3 = nI (d_n D) ∧ I a 4 = nI (d_nr D) ∧ I a 5 = nI (d_o D) ∧ I a 6 = nI (d_np D) ∧
  (∀ k, k < 9 → I a (7 + k) = if k < d_o D then nI (d_ln D k) else 0) ∧
  (∀ g, g < d_n D → I a (16 + 5 * g) = nI (d_kd D g) ∧ I a (17 + 5 * g) = nI (d_by D g) ∧ I a (18 + 5 * g) = nI (d_cl D g) ∧ I a (19 + 5 * g) = nI (d_wo D g) ∧ (isin D g = true → I a (20 + 5 * g) = -9)) ∧
  (∀ k, k < d_o D → I a (20 + 5 * d_ln D k) = nI k) ∧
  (∀ k, k < d_np D → I a (61 + 2 * k) = nI (d_pg D k) ∧ I a (62 + 2 * k) = nI (d_pc D k)) ∧
  (∀ r, r < d_nr D → I a (73 + 3 * r) = nI (d_rk D r) ∧ I a (74 + 3 * r) = nI (d_rt D r) ∧ (d_rt D r ≠ 2 → I a (75 + 3 * r) = nI (d_rb D r)) ∧ ∀ i t, (tks (d_rr D r))[i]? = some t → I a (106 + (tkA D r + i)) = nI t) ∧
  (∀ r, r ≤ d_nr D → I a (97 + r) = nI (tkA D r))
