/-! THE TAPE'S TOKENS, and the class that parts it -/
def isL (c : Nat) : Bool := decide (97 ≤ c) && decide (c ≤ 122)
def isG (c : Nat) : Bool := decide (48 ≤ c) && decide (c ≤ 57)
def srt (c : Nat) : Nat := if isL c then 0 else if isG c then 1 else 2
def rnF (b : Nat → Nat) (s : Nat) : Nat → Nat → Nat
  | 0, q => q
  | r + 1, q => if srt (b q) = s then rnF b s r (q + 1) else q
def rne (b : Nat → Nat) (n s q : Nat) : Nat := rnF b s (n - q) q
def skF (b : Nat → Nat) : Nat → Nat → Nat
  | 0, q => q
  | r + 1, q => if b q = 32 then skF b r (q + 1) else q
def skp (b : Nat → Nat) (n q : Nat) : Nat := skF b (n - q) q
def sgF (b : Nat → Nat) : Nat → Nat → List Nat
  | 0, _ => []
  | r + 1, p => b p :: sgF b r (p + 1)
def seg (b : Nat → Nat) (p q : Nat) : List Nat := sgF b (q - p) p
def nvF (b : Nat → Nat) : Nat → Nat → Nat → Nat
  | 0, _, a => a
  | r + 1, k, a => nvF b r (k + 1) (a * 10 + (b k - 48))
def nmW (sg : List Nat) : List (List Nat) → Nat → Nat
  | [], _ => 30001
  | u :: us, w => if sg = u then 10000 + w else nmW sg us (w + 1)
def wl : List (List Nat) := [[103, 111, 111, 100], [116, 119, 105, 110], [108, 105, 118, 105, 110, 103], [103, 111, 97, 116], [115, 101, 97, 108, 101, 100], [114, 111, 121, 97, 108], [105, 102], [111, 114], [97, 110, 100], [110, 111, 116], [109, 111, 114, 101], [108, 101, 115, 115], [102, 114, 101, 101], [103, 97, 112], [100, 97, 121], [99, 108, 111, 116, 104], [119, 111, 114, 116, 104], [110, 117, 109, 98, 101, 114]]
def bTk (c : Nat) : Nat := if c = 40 ∨ c = 41 ∨ c = 59 ∨ c = 60 ∨ c = 61 ∨ c = 62 then 20000 + c else 30001
def tkP (b : Nat → Nat) (n p : Nat) : Nat := if n ≤ p then 30000 else if srt (b p) = 0 then nmW (seg b p (rne b n 0 p)) wl 0 else if srt (b p) = 1 then (if rne b n 1 p - p ≤ 4 then nvF b (rne b n 1 p - p) p 0 else 30001) else bTk (b p)
def nxP (b : Nat → Nat) (n p : Nat) : Nat := if n ≤ p then p else if srt (b p) = 2 then p + 1 else rne b n (srt (b p)) p
/-- the token behind e, where it begins, where it ends -/
def tk (b : Nat → Nat) (n e : Nat) : Nat := tkP b n (skp b n e)
def nx (b : Nat → Nat) (n e : Nat) : Nat := nxP b n (skp b n e)
def TL (b : Nat → Nat) (n : Nat) : Nat → Nat → List (Nat × Nat)
  | 0, _ => [(30000, n)]
  | r + 1, e => if n ≤ skp b n e then [(30000, n)] else (tk b n e, skp b n e) :: TL b n r (nx b n e)
theorem srt_2 (c : Nat) : srt c ≤ 2 := by unfold srt; split; decide; split <;> decide
section LEX
variable {b : Nat → Nat} {n : Nat}
theorem rne_s {s q : Nat} (hq : q < n) (h : srt (b q) = s) : rne b n s q = rne b n s (q + 1) := by
  unfold rne
  rw [show n - q = (n - (q + 1)) + 1 by omega, rnF, if_pos h]
theorem rne_o {s q : Nat} (h : n ≤ q ∨ srt (b q) ≠ s) : rne b n s q = q := by
  unfold rne
  by_cases hq : n ≤ q
  · rw [show n - q = 0 by omega]; rfl
  · rw [show n - q = (n - (q + 1)) + 1 by omega, rnF, if_neg (by omega)]
theorem rnF_le (b : Nat → Nat) (s : Nat) : ∀ r q, q ≤ rnF b s r q ∧ rnF b s r q ≤ q + r
  | 0, q => ⟨Nat.le_refl _, Nat.le_refl _⟩
  | r + 1, q => by
    rw [rnF]
    split
    · have := rnF_le b s r (q + 1); omega
    · omega
theorem rne_le {s q : Nat} (hq : q ≤ n) : q ≤ rne b n s q ∧ rne b n s q ≤ n := by
  have := rnF_le b s (n - q) q
  unfold rne; omega
theorem skp_s {q : Nat} (hq : q < n) (h : b q = 32) : skp b n q = skp b n (q + 1) := by
  unfold skp
  rw [show n - q = (n - (q + 1)) + 1 by omega, skF, if_pos h]
theorem skp_o {q : Nat} (h : n ≤ q ∨ b q ≠ 32) : skp b n q = q := by
  unfold skp
  by_cases hq : n ≤ q
  · rw [show n - q = 0 by omega]; rfl
  · rw [show n - q = (n - (q + 1)) + 1 by omega, skF, if_neg (by omega)]
theorem skF_le (b : Nat → Nat) : ∀ r q, q ≤ skF b r q ∧ skF b r q ≤ q + r ∧ (skF b r q < q + r → b (skF b r q) ≠ 32)
  | 0, q => ⟨Nat.le_refl _, Nat.le_refl _, fun h => absurd h (Nat.lt_irrefl _)⟩
  | r + 1, q => by
    rw [skF]
    split
    · have := skF_le b r (q + 1)
      exact ⟨by omega, by omega, fun h => this.2.2 (by omega)⟩
    · rename_i h
      exact ⟨Nat.le_refl _, by omega, fun _ => h⟩
theorem skp_le {q : Nat} (hq : q ≤ n) : q ≤ skp b n q ∧ skp b n q ≤ n ∧ (skp b n q < n → b (skp b n q) ≠ 32) := by
  have := skF_le b (n - q) q
  unfold skp
  exact ⟨this.1, by omega, fun h => this.2.2 (by omega)⟩
theorem nxP_gt {p : Nat} (hp : p < n) : p < nxP b n p ∧ nxP b n p ≤ n := by
  unfold nxP
  rw [if_neg (by omega)]
  split
  · omega
  · rw [rne_s hp rfl]
    have := rne_le (b := b) (n := n) (s := srt (b p)) (q := p + 1) (by omega)
    omega
theorem TL_sk (r : Nat) {e : Nat} (he : e < n) (h : b e = 32) : TL b n r e = TL b n r (e + 1) := by
  cases r with
  | zero => rfl
  | succ r => rw [TL, TL, tk, tk, nx, nx, skp_s he h]
theorem sg_s {p q : Nat} (h : p < q) : seg b p q = b p :: seg b (p + 1) q := by
  unfold seg
  rw [show q - p = (q - (p + 1)) + 1 by omega, sgF]
/-- a name's word among the words, letter by letter -/
def nmF (b : Nat → Nat) (p q : Nat) : List Nat → Nat → Nat → Nat
  | [], _, _ => 30001
  | c :: t, w, al => if c = 32 then (if al = q then 10000 + w else nmF b p q t (w + 1) p) else nmF b p q t w (if al < q ∧ b al = c then al + 1 else 201)
theorem nmF_word {p q : Nat} (hq : q ≤ 200) (t : List Nat) (w : Nat) : ∀ (u : List Nat) (al : Nat), (∀ c ∈ u, c ≠ 32) → nmF b p q (u ++ 32 :: t) w al = if al ≤ q ∧ seg b al q = u then 10000 + w else nmF b p q t (w + 1) p
  | [], al, _ => by
    rw [List.nil_append, nmF, if_pos rfl]
    by_cases h : al = q
    · subst h
      rw [if_pos rfl, if_pos ⟨Nat.le_refl _, by unfold seg; rw [Nat.sub_self]; rfl⟩]
    · rw [if_neg h]
      by_cases h2 : al < q
      · rw [if_neg (fun z => by rw [sg_s h2] at z; cases z.2)]
      · rw [if_neg (fun z => by omega)]
  | c :: u, al, hu => by
    have hc := hu c List.mem_cons_self
    rw [List.cons_append, nmF, if_neg hc, nmF_word hq t w u _ (fun d hd => hu d (List.mem_cons_of_mem _ hd))]
    by_cases h : al < q ∧ b al = c
    · rw [if_pos h]
      have e : seg b al q = c :: seg b (al + 1) q := by rw [sg_s h.1, h.2]
      by_cases h2 : al + 1 ≤ q ∧ seg b (al + 1) q = u
      · rw [if_pos h2, if_pos ⟨by omega, by rw [e, h2.2]⟩]
      · rw [if_neg h2, if_neg (fun z => h2 ⟨by omega, by rw [e] at z; exact (List.cons.inj z.2).2⟩)]
    · rw [if_neg h, if_neg (by omega)]
      by_cases h2 : al ≤ q ∧ seg b al q = c :: u
      · exfalso
        by_cases h3 : al < q
        · rw [sg_s h3] at h2
          exact h ⟨h3, (List.cons.inj h2.2).1⟩
        · have : al = q := by omega
          subst this
          have h4 := h2.2
          unfold seg at h4
          rw [Nat.sub_self] at h4
          cases h4
      · rw [if_neg h2]
def txw : List Nat := wl.flatMap (fun u => u ++ [32])
theorem nmF_words {p q : Nat} (hpq : p ≤ q) (hq : q ≤ 200) : ∀ (us : List (List Nat)) (w : Nat), (∀ u ∈ us, ∀ c ∈ u, c ≠ 32) → nmF b p q (us.flatMap (fun u => u ++ [32])) w p = nmW (seg b p q) us w
  | [], w, _ => rfl
  | u :: us, w, h => by
    rw [List.flatMap_cons, List.append_assoc, List.singleton_append, nmF_word hq _ w u p (h u List.mem_cons_self), nmW, nmF_words hpq hq us (w + 1) (fun v hv => h v (List.mem_cons_of_mem _ hv))]
    by_cases e : seg b p q = u
    · rw [if_pos ⟨hpq, e⟩, if_pos e]
    · rw [if_neg (fun z => e z.2), if_neg e]
theorem nm_txw {p q : Nat} (hpq : p ≤ q) (hq : q ≤ 200) : nmF b p q txw 0 p = nmW (seg b p q) wl 0 := nmF_words hpq hq wl 0 (by decide)
theorem nmW_lt (sg : List Nat) : ∀ (us : List (List Nat)) (w : Nat), nmW sg us w < 10000 + w + us.length ∨ nmW sg us w = 30001
  | [], w => Or.inr rfl
  | u :: us, w => by
    rw [nmW]
    split
    · left; simp
    · rcases nmW_lt sg us (w + 1) with h | h
      · left; simp; omega
      · exact Or.inr h
theorem nvF_lt (b : Nat → Nat) : ∀ r k a m, a < 10 ^ m → (∀ i, i < r → b (k + i) - 48 < 10) → nvF b r k a < 10 ^ (m + r)
  | 0, k, a, m, h, _ => h
  | r + 1, k, a, m, h, hb => by
    rw [nvF, show m + (r + 1) = (m + 1) + r by omega]
    refine nvF_lt b r (k + 1) _ (m + 1) ?_ (fun i hi => by rw [show k + 1 + i = k + (i + 1) by omega]; exact hb (i + 1) (by omega))
    have := hb 0 (by omega)
    rw [Nat.add_zero] at this
    rw [Nat.pow_succ]; omega
end LEX
