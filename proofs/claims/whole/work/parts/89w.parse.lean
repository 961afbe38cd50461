/-! A RULE'S CONDITION, READ FROM THE TAPE -/
abbrev Sp3 := Nat × Nat × Nat
abbrev PRs := Nat ⊕ (Nat × List Sp3 × List Sp3)
def oT (op : Nat) : Sp3 := (op, 0, 0)
def isVal (t : Nat) : Bool := decide (t < 10000) || (decide (10013 ≤ t) && decide (t ≤ 10017))
def vTok (t : Nat) : Nat := if t < 10000 then t else t - 13
def pCmp (b : Nat → Nat) (n e : Nat) : PRs :=
  if isVal (tk b n e) = true then
    if tk b n (nx b n e) = 20060 ∨ tk b n (nx b n e) = 20061 ∨ tk b n (nx b n e) = 20062 then
      if isVal (tk b n (nx b n (nx b n e))) = true then
        .inr (nx b n (nx b n (nx b n e)), [(tk b n (nx b n e) - 58, vTok (tk b n e), vTok (tk b n (nx b n (nx b n e))))], [(tk b n (nx b n e) - 58, vTok (tk b n e), vTok (tk b n (nx b n (nx b n e))))])
      else .inl (nx b n (nx b n e))
    else .inl (nx b n e)
  else .inl e
def pLp (b : Nat → Nat) (n w op : Nat) (g : Nat → PRs) : Nat → Nat → List Sp3 → List Sp3 → PRs
  | 0, e, c, d => .inr (e, c, d)
  | r + 1, e, c, d => if tk b n e = w then (match g (nx b n e) with
    | .inl f => .inl f
    | .inr p => pLp b n w op g r p.1 (c ++ p.2.1 ++ [oT op]) (d ++ p.2.2 ++ [oT op])) else .inr (e, c, d)
def pSeq (b : Nat → Nat) (n w op : Nat) (g : Nat → PRs) (e : Nat) : PRs := match g e with
  | .inl f => .inl f
  | .inr p => pLp b n w op g 200 p.1 p.2.1 p.2.2
def pAll (b : Nat → Nat) (n : Nat) (g : Nat → PRs) : Nat → PRs := pSeq b n 10008 20001 g
def pCond (b : Nat → Nat) (n : Nat) (g : Nat → PRs) : Nat → PRs := pSeq b n 10007 20000 (pAll b n g)
def pNt (b : Nat → Nat) (n : Nat) : Nat → Nat → Nat × Nat
  | 0, e => (0, e)
  | r + 1, e => if tk b n e = 10009 then ((pNt b n r (nx b n e)).1 + 1, (pNt b n r (nx b n e)).2) else (0, e)
def pAt (b : Nat → Nat) (n : Nat) (g : Option (Nat → PRs)) (e : Nat) : PRs :=
  if tk b n e = 20040 then (match g with
    | none => .inl e
    | some g => (match g (nx b n e) with
      | .inl f => .inl f
      | .inr p => if tk b n p.1 = 20041 then .inr (nx b n p.1, p.2.1, p.2.2) else .inl p.1)) else pCmp b n e
def nts (c : Nat) : List Sp3 := if c % 2 = 1 then [oT 20005] else []
def pNo (a : Nat → PRs) (c e : Nat) : PRs := match a e with
  | .inl f => .inl f
  | .inr p => .inr (p.1, p.2.1 ++ nts c, p.2.2 ++ List.replicate c (oT 20005))
def pOn (b : Nat → Nat) (n : Nat) (a : Nat → PRs) (e : Nat) : PRs := pNo a (pNt b n 200 e).1 (pNt b n 200 e).2
def pOne (b : Nat → Nat) (n : Nat) : Nat → Nat → PRs
  | 0 => pOn b n (pAt b n none)
  | L + 1 => pOn b n (pAt b n (some (pCond b n (pOne b n L))))
/-- what is true of the steps that are read -/
def Gd (h dl : Nat) (c d : List Sp3) : Prop := 5 * c.length + 1 ≤ 2 * dl ∧ (tks d).length ≤ dl ∧ (∀ k, k + h ≤ 20 → c.foldl hgt (some k) = some (k + 1) ∧ d.foldl hgt (some k) = some (k + 1)) ∧ ∀ E g, ∃ v, ∀ st, c.foldl (evb E g) st = v :: st ∧ d.foldl (evb E g) st = v :: st
theorem Gd_up {h h' dl dl' : Nat} {c d : List Sp3} (hh : h ≤ h') (hd : dl ≤ dl') (H : Gd h dl c d) : Gd h' dl' c d :=
  ⟨Nat.le_trans H.1 (by omega), Nat.le_trans H.2.1 hd, fun k hk => H.2.2.1 k (by omega), H.2.2.2⟩
theorem tks_app (c d : List Sp3) : tks (c ++ d) = tks c ++ tks d := List.flatMap_append
theorem Gd_cmp {op x y dl : Nat} (ho : op = 20002 ∨ op = 20003 ∨ op = 20004) (hx : x < 10005) (hy : y < 10005) (hd : 3 ≤ dl) : Gd 1 dl [(op, x, y)] [(op, x, y)] := by
  have h1 : op ≠ 20005 := by omega
  have h2 : ¬ (op = 20000 ∨ op = 20001) := by omega
  have h : ∀ k, k + 1 ≤ 20 → List.foldl hgt (some k) [(op, x, y)] = some (k + 1) := fun k hk => by
    show hgt (some k) (op, x, y) = _
    rw [hgt]
    simp only
    rw [if_neg h1, if_neg h2, if_pos ho, if_pos ⟨by omega, hx, hy⟩]
  refine ⟨by show 5 * 1 + 1 ≤ _; omega, ?_, fun k hk => ⟨h k hk, h k hk⟩, fun E g => ⟨cmpb op (tokv E g x) (tokv E g y), fun st => ?_⟩⟩
  · have : (tks [(op, x, y)]).length = 3 := by
      unfold tks
      rw [List.flatMap_cons, List.flatMap_nil, List.append_nil]
      simp only
      rw [if_pos ho]; rfl
    omega
  · have : List.foldl (evb E g) st [(op, x, y)] = cmpb op (tokv E g x) (tokv E g y) :: st := by
      show evb E g st (op, x, y) = _
      unfold evb
      simp only
      rw [if_neg h1, if_neg (by omega), if_neg (by omega)]
    exact ⟨this, this⟩
theorem Gd_bin {op h1 h2 d1 d2 dl : Nat} {c d c1 e1 : List Sp3} (ho : op = 20000 ∨ op = 20001) (H : Gd h1 d1 c d) (H1 : Gd h2 d2 c1 e1) (hd : d1 + d2 + 2 ≤ dl) : Gd (max h1 (h2 + 1)) dl (c ++ c1 ++ [oT op]) (d ++ e1 ++ [oT op]) := by
  obtain ⟨a1, a2, a3, a4⟩ := H
  obtain ⟨b1, b2, b3, b4⟩ := H1
  have n5 : op ≠ 20005 := by omega
  refine ⟨?_, ?_, fun k hk => ?_, fun E g => ?_⟩
  · rw [List.length_append, List.length_append]
    show 5 * (c.length + c1.length + 1) + 1 ≤ _
    omega
  · rw [tks_app, tks_app, List.length_append, List.length_append]
    have : (tks [oT op]).length = 1 := by
      rcases ho with e | e <;> rw [e] <;> rfl
    omega
  · have hs : hgt (some (k + 1 + 1)) (oT op) = some (k + 1) := by
      show (if op = 20005 then _ else if op = 20000 ∨ op = 20001 then _ else _) = _
      rw [if_neg n5, if_pos ho, if_pos (by omega)]; rfl
    have x1 := a3 k (by omega)
    have x2 := b3 (k + 1) (by omega)
    constructor
    · rw [List.foldl_append, List.foldl_append, x1.1, x2.1]; exact hs
    · rw [List.foldl_append, List.foldl_append, x1.2, x2.2]; exact hs
  · obtain ⟨v, hv⟩ := a4 E g
    obtain ⟨w, hw⟩ := b4 E g
    rcases ho with e | e
    · refine ⟨v || w, fun st => ⟨?_, ?_⟩⟩
      · rw [List.foldl_append, List.foldl_append, (hv st).1, (hw _).1, e]; rfl
      · rw [List.foldl_append, List.foldl_append, (hv st).2, (hw _).2, e]; rfl
    · refine ⟨v && w, fun st => ⟨?_, ?_⟩⟩
      · rw [List.foldl_append, List.foldl_append, (hv st).1, (hw _).1, e]; rfl
      · rw [List.foldl_append, List.foldl_append, (hv st).2, (hw _).2, e]; rfl
def flp : Nat → Bool → Bool
  | 0, v => v
  | c + 1, v => flp c (!v)
theorem flp_e : ∀ c v, flp c v = if c % 2 = 1 then !v else v
  | 0, v => rfl
  | c + 1, v => by
    rw [flp, flp_e c]
    by_cases h : c % 2 = 1
    · rw [if_pos h, if_neg (by omega), Bool.not_not]
    · rw [if_neg h, if_pos (by omega)]
theorem rp_ev (E : Dt) (g : Nat) : ∀ c v st, List.foldl (evb E g) (v :: st) (List.replicate c (oT 20005)) = flp c v :: st
  | 0, v, st => rfl
  | c + 1, v, st => by rw [List.replicate_succ, List.foldl_cons, flp, ← rp_ev E g c (!v) st]; rfl
theorem rp_hg : ∀ c k, List.foldl hgt (some (k + 1)) (List.replicate c (oT 20005)) = some (k + 1)
  | 0, k => rfl
  | c + 1, k => by
    rw [List.replicate_succ, List.foldl_cons]
    have : hgt (some (k + 1)) (oT 20005) = some (k + 1) := by
      show (if 1 ≤ k + 1 then some (k + 1) else none) = _
      rw [if_pos (by omega)]
    rw [this, rp_hg c k]
theorem rp_tk : ∀ c, tks (List.replicate c (oT 20005)) = List.replicate c 20005
  | 0 => rfl
  | c + 1 => by rw [List.replicate_succ, List.replicate_succ, ← rp_tk c]; rfl
theorem Gd_not {h dl dl' k : Nat} {c d : List Sp3} (H : Gd h dl c d) (hd : dl + 3 * k ≤ dl') : Gd h dl' (c ++ nts k) (d ++ List.replicate k (oT 20005)) := by
  obtain ⟨a1, a2, a3, a4⟩ := H
  have hn : (nts k).length ≤ k := by
    unfold nts
    split
    · show 1 ≤ k; omega
    · exact Nat.zero_le _
  have hn1 : (nts k).length ≤ 1 := by
    unfold nts
    split
    · exact Nat.le_refl 1
    · exact Nat.zero_le _
  refine ⟨by rw [List.length_append]; omega, by rw [tks_app, List.length_append, rp_tk, List.length_replicate]; omega, fun j hj => ?_, fun E g => ?_⟩
  · have x := a3 j hj
    refine ⟨?_, by rw [List.foldl_append, x.2, rp_hg]⟩
    rw [List.foldl_append, x.1]
    unfold nts
    split
    · exact rp_hg 1 j
    · rfl
  · obtain ⟨v, hv⟩ := a4 E g
    refine ⟨flp k v, fun st => ⟨?_, by rw [List.foldl_append, (hv st).2, rp_ev]⟩⟩
    rw [List.foldl_append, (hv st).1, flp_e]
    unfold nts
    split <;> rfl
section PRS
variable {b : Nat → Nat} {n : Nat}
def OkR (b : Nat → Nat) (n h : Nat) (g : Nat → PRs) : Prop := ∀ e, e ≤ n → (∀ f, g e = .inl f → e ≤ f ∧ f ≤ n) ∧ ∀ p, g e = .inr p → e < p.1 ∧ p.1 ≤ n ∧ Gd h (p.1 - e) p.2.1 p.2.2
theorem tk_len {e i : Nat} (he : e ≤ n) (hi : i < 18) (h : tk b n e = 10000 + i) : e + (wl.getD i []).length ≤ nx b n e := by
  have h2 := ((tk_word hi).mp h).2
  have := congrArg List.length h2
  rw [seg, seg_l] at this
  have hs := skp_le (b := b) he
  have hx := nx_le (b := b) he
  have := hx.2.2 (by omega)
  omega
theorem vTok_lt {t : Nat} (h : isVal t = true) : vTok t < 10005 ∧ cTok (vTok t) = t ∧ t < 10018 := by
  unfold isVal at h
  simp at h
  unfold vTok cTok
  by_cases q : t < 10000
  · rw [if_pos q, if_pos q]; omega
  · rw [if_neg q, if_neg (by omega)]; omega
theorem pCmp_ok : OkR b n 1 (pCmp b n) := by
  intro e he
  have x1 := nx_le (b := b) he
  have x2 := nx_le (b := b) x1.2.1
  have x3 := nx_le (b := b) x2.2.1
  have s1 := skp_le (b := b) he
  have s2 := skp_le (b := b) x1.2.1
  have s3 := skp_le (b := b) x2.2.1
  unfold pCmp
  split
  · rename_i v1
    have t1 := vTok_lt v1
    split
    · rename_i o1
      split
      · rename_i v2
        have t2 := vTok_lt v2
        refine ⟨fun f hf => (by cases hf), fun p hp => ?_⟩
        cases hp
        have y1 := x1.2.2 (by omega)
        have y2 := x2.2.2 (by omega)
        have y3 := x3.2.2 (by omega)
        exact ⟨by show e < nx b n _; omega, x3.2.1, Gd_cmp (by omega) t1.1 t2.1 (by show 3 ≤ nx b n _ - e; omega)⟩
      · exact ⟨fun f hf => by cases hf; omega, fun p hp => by cases hp⟩
    · exact ⟨fun f hf => by cases hf; omega, fun p hp => by cases hp⟩
  · exact ⟨fun f hf => by cases hf; omega, fun p hp => by cases hp⟩
theorem pLp_ok {w op h i : Nat} {g : Nat → PRs} (hw : w = 10000 + i) (hi : i < 18) (hl : 2 ≤ (wl.getD i []).length) (ho : op = 20000 ∨ op = 20001) (hg : OkR b n h g) {e0 : Nat} : ∀ (r e : Nat) (c d : List Sp3), e0 ≤ e → e ≤ n → Gd (h + 1) (e - e0) c d →
    (∀ f, pLp b n w op g r e c d = .inl f → e ≤ f ∧ f ≤ n) ∧ ∀ p, pLp b n w op g r e c d = .inr p → e ≤ p.1 ∧ p.1 ≤ n ∧ Gd (h + 1) (p.1 - e0) p.2.1 p.2.2
  | 0, e, c, d, h0, he, H => ⟨fun f hf => (by cases hf), fun p hp => by cases hp; exact ⟨Nat.le_refl e, he, H⟩⟩
  | r + 1, e, c, d, h0, he, H => by
    rw [pLp]
    split
    · rename_i ht
      have x1 := nx_le (b := b) he
      have l1 := tk_len (b := b) he hi (by omega)
      have G := hg (nx b n e) x1.2.1
      split
      · rename_i f hf
        have := G.1 f hf
        exact ⟨fun f' hf' => by cases hf'; omega, fun p hp => by cases hp⟩
      · rename_i p hp
        have G2 := G.2 p hp
        have ih := pLp_ok hw hi hl ho hg (e0 := e0) r p.1 (c ++ p.2.1 ++ [oT op]) (d ++ p.2.2 ++ [oT op]) (by omega) G2.2.1 (Gd_up (by omega) (by omega) (Gd_bin ho H G2.2.2 (Nat.le_refl _)))
        exact ⟨fun f hf => by have := ih.1 f hf; omega, fun q hq => by have := ih.2 q hq; exact ⟨by omega, this.2⟩⟩
    · exact ⟨fun f hf => (by cases hf), fun p hp => by cases hp; exact ⟨Nat.le_refl e, he, H⟩⟩
theorem pSeq_ok {w op h i : Nat} {g : Nat → PRs} (hw : w = 10000 + i) (hi : i < 18) (hl : 2 ≤ (wl.getD i []).length) (ho : op = 20000 ∨ op = 20001) (hg : OkR b n h g) : OkR b n (h + 1) (pSeq b n w op g) := by
  intro e he
  have G := hg e he
  unfold pSeq
  split
  · rename_i f hf
    have := G.1 f hf
    exact ⟨fun f' hf' => by cases hf'; omega, fun p hp => by cases hp⟩
  · rename_i p hp
    have G2 := G.2 p hp
    have ih := pLp_ok hw hi hl ho hg (e0 := e) 200 p.1 p.2.1 p.2.2 (by omega) G2.2.1 (Gd_up (by omega) (Nat.le_refl _) G2.2.2)
    exact ⟨fun f hf => by have := ih.1 f hf; omega, fun q hq => by have := ih.2 q hq; exact ⟨by omega, this.2⟩⟩
theorem pNt_ok : ∀ (r e : Nat), e ≤ n → e + 3 * (pNt b n r e).1 ≤ (pNt b n r e).2 ∧ (pNt b n r e).2 ≤ n ∧ (n ≤ e + r → tk b n (pNt b n r e).2 ≠ 10009)
  | 0, e, he => by
    refine ⟨Nat.le_refl _, he, fun h => ?_⟩
    have hs := skp_le (b := b) he
    show tk b n e ≠ 10009
    rw [tk, tkP, if_pos (by omega)]; decide
  | r + 1, e, he => by
    rw [pNt]
    split
    · rename_i ht
      have x1 := nx_le (b := b) he
      have l1 := tk_len (b := b) (i := 9) he (by decide) ht
      have l2 : (wl.getD 9 []).length = 3 := rfl
      have ih := pNt_ok r (nx b n e) x1.2.1
      exact ⟨by show e + 3 * ((pNt b n r (nx b n e)).1 + 1) ≤ _; omega, ih.2.1, fun h => ih.2.2 (by omega)⟩
    · rename_i ht
      exact ⟨Nat.le_refl _, he, fun _ => ht⟩
theorem pAt_ok {h : Nat} {g : Option (Nat → PRs)} (h1 : 1 ≤ h) (hg : ∀ G, g = some G → OkR b n h G) : OkR b n h (pAt b n g) := by
  intro e he
  have x1 := nx_le (b := b) he
  unfold pAt
  split
  · rename_i ht
    cases g with
    | none => exact ⟨fun f hf => by cases hf; omega, fun p hp => by cases hp⟩
    | some G =>
      have GG := hg G rfl (nx b n e) x1.2.1
      simp only
      split
      · rename_i f hf
        have := GG.1 f hf
        exact ⟨fun f' hf' => by cases hf'; omega, fun p hp => by cases hp⟩
      · rename_i p hp
        have G2 := GG.2 p hp
        have x2 := nx_le (b := b) G2.2.1
        split
        · exact ⟨fun f hf => (by cases hf), fun q hq => by cases hq; exact ⟨by show e < nx b n p.1; omega, x2.2.1, Gd_up (Nat.le_refl _) (by show _ ≤ nx b n p.1 - e; omega) G2.2.2⟩⟩
        · exact ⟨fun f hf => by cases hf; omega, fun q hq => by cases hq⟩
  · have := pCmp_ok (b := b) (n := n) e he
    exact ⟨this.1, fun p hp => ⟨(this.2 p hp).1, (this.2 p hp).2.1, Gd_up h1 (Nat.le_refl _) (this.2 p hp).2.2⟩⟩
theorem pOn_ok {h : Nat} {a : Nat → PRs} (ha : OkR b n h a) : OkR b n h (pOn b n a) := by
  intro e he
  have N := pNt_ok (b := b) (n := n) 200 e he
  have A := ha _ N.2.1
  unfold pOn pNo
  split
  · rename_i f hf
    have := A.1 f hf
    exact ⟨fun f' hf' => by cases hf'; omega, fun p hp => by cases hp⟩
  · rename_i p hp
    have G2 := A.2 p hp
    exact ⟨fun f hf => (by cases hf), fun q hq => by cases hq; exact ⟨by show e < p.1; omega, G2.2.1, Gd_not G2.2.2 (by show _ ≤ p.1 - e; omega)⟩⟩
theorem pOne_ok : ∀ L, OkR b n (2 * L + 1) (pOne b n L)
  | 0 => pOn_ok (pAt_ok (Nat.le_refl 1) (fun G h => by cases h))
  | L + 1 => pOn_ok (pAt_ok (by omega) (fun G h => by
    cases h
    exact pSeq_ok (i := 7) rfl (by decide) (by decide) (Or.inl rfl) (pSeq_ok (i := 8) rfl (by decide) (by decide) (Or.inr rfl) (pOne_ok L))))
theorem pCond_ok (L : Nat) : OkR b n (2 * L + 3) (pCond b n (pOne b n L)) := pSeq_ok (i := 7) rfl (by decide) (by decide) (Or.inl rfl) (pSeq_ok (i := 8) rfl (by decide) (by decide) (Or.inr rfl) (pOne_ok L))
end PRS
