/-! TEXT: tokens -/
def isWs (c : Nat) : Prop := c = 10 ∨ c = 32
def isSm (c : Nat) : Prop := 97 ≤ c ∧ c ≤ 122
def isDg (c : Nat) : Prop := 48 ≤ c ∧ c ≤ 57
/-- on while it holds -/
noncomputable def adv (T : Nat → Nat) (n : Nat) (P : Nat → Prop) : Nat → Nat → Nat
  | 0, p => p
  | f + 1, p => cif (p < n ∧ P (T p)) (adv T n P f (p + 1)) p
noncomputable def gon (T : Nat → Nat) (n : Nat) (P : Nat → Prop) (p : Nat) : Nat := adv T n P (n - p) p
section
variable {T : Nat → Nat} {n p : Nat} {P : Nat → Prop}
theorem gon_t (h : p < n) (hP : P (T p)) : gon T n P p = gon T n P (p + 1) := by
  unfold gon
  rw [show n - p = (n - (p + 1)) + 1 by omega]
  exact cif_t ⟨h, hP⟩ _ _
theorem gon_f (h : ¬ (p < n ∧ P (T p))) : gon T n P p = p := by
  unfold gon
  cases n - p with
  | zero => rfl
  | succ f => exact cif_f h _ _
theorem gon_ind {Q : Nat → Nat → Prop} (hf : ∀ p, ¬ (p < n ∧ P (T p)) → Q p p) (ht : ∀ p r, p < n → P (T p) → Q (p + 1) r → Q p r) : ∀ f p, n - p ≤ f → Q p (gon T n P p) := by
  intro f
  induction f with
  | zero =>
    intro p hp
    have h : ¬ (p < n ∧ P (T p)) := fun z => by omega
    rw [gon_f h]; exact hf p h
  | succ f ih =>
    intro p hp
    by_cases h : p < n ∧ P (T p)
    · rw [gon_t h.1 h.2]; exact ht p _ h.1 h.2 (ih (p + 1) (by omega))
    · rw [gon_f h]; exact hf p h
theorem gon_ge : p ≤ gon T n P p := gon_ind (Q := fun p r => p ≤ r) (fun p _ => Nat.le_refl _) (fun p r _ _ h => by omega) (n - p) p (Nat.le_refl _)
theorem gon_le (hp : p ≤ n) : gon T n P p ≤ n := gon_ind (Q := fun p r => p ≤ n → r ≤ n) (fun p _ h => h) (fun p r h1 _ h _ => h (by omega)) (n - p) p (Nat.le_refl _) hp
theorem gon_all : ∀ j, p ≤ j → j < gon T n P p → j < n ∧ P (T j) := gon_ind (Q := fun p r => ∀ j, p ≤ j → j < r → j < n ∧ P (T j)) (fun p _ j h1 h2 => by omega) (fun p r h1 h2 h j h3 h4 => by
  by_cases q : j = p
  · rw [q]; exact ⟨h1, h2⟩
  · exact h j (by omega) h4) (n - p) p (Nat.le_refl _)
theorem gon_end : ¬ (gon T n P p < n ∧ P (T (gon T n P p))) := gon_ind (Q := fun _ r => ¬ (r < n ∧ P (T r))) (fun p h => h) (fun p r _ _ h => h) (n - p) p (Nat.le_refl _)
end
/-! the words, one after the other -/
def WSl : List Nat := [99, 111, 114, 110, 101, 114, 32, 114, 105, 118, 101, 114, 32, 115, 116, 114, 101, 101, 116, 32, 112, 105, 112, 101, 32, 102, 97, 108, 108, 115, 32, 99, 111, 118, 101, 114, 32, 114, 97, 105, 110, 32, 108, 97, 119, 32, 99, 97, 114, 116, 32, 114, 111, 99, 107, 32, 104, 111, 117, 114, 115, 32, 114, 105, 115, 107, 32, 99, 97, 114, 114, 121, 32, 100, 105, 103, 32, 112, 117, 109, 112, 32, 111, 114, 32, 97, 110, 100, 32, 110, 111, 116, 32, 119, 105, 100, 101, 32, 102, 97, 108, 108, 32, 100, 101, 101, 112, 32, 114, 111, 99, 107, 121, 32, 108, 105, 102, 116, 32, 102, 108, 111, 119, 32]
def wstl : List Nat := [0, 7, 13, 20, 25, 31, 37, 42, 46, 51, 56, 62, 67, 73, 77, 82, 85, 89, 93, 98, 103, 108, 114, 119, 124]
def wlnl : List Nat := [6, 5, 6, 4, 5, 5, 4, 3, 4, 4, 5, 4, 5, 3, 4, 2, 3, 3, 4, 4, 4, 5, 4, 4]
def KWl : List Nat := [116996274, 614143552, 659100852, 546837504, 202781280, 117118528, 605337600, 404455424, 102322176, 619817984, 284871264, 614050816, 102320928, 143884288, 559333376, 522190848, 48365568, 486146048, 781325312, 202780672, 139640832, 619818784, 412307456, 214424576]
def wst (w : Nat) : Nat := wstl.getD w 0
def wln (w : Nat) : Nat := wlnl.getD w 0
def KW (w : Nat) : Nat := KWl.getD w 0
def WC (w i : Nat) : Nat := WSl.getD (wst w + i) 0
theorem wT : ∀ w, w < 24 → wln w ≤ 6 ∧ wst (w + 1) = wst w + wln w + 1 ∧ wst w < 124 ∧ 1 ≤ wln w := by decide
theorem wTc : ∀ w, w < 24 → ∀ i, i < wln w → 97 ≤ WC w i ∧ WC w i ≤ 122 := by decide
theorem wTs : ∀ w, w < 24 → WC w (wln w) = 32 := by decide
theorem wT24 : wst 24 = 124 ∧ wst 0 = 0 := by decide
theorem wTh : ∀ k, k < 124 → op_tch 1000002 (nI k) = some (nI (WSl.getD k 0)) := by decide +kernel
theorem wTl : op_tlen 1000002 = some (nI 124) := by decide +kernel
/-- the token from q to e is the word w -/
abbrev eqW (T : Nat → Nat) (q e w : Nat) : Prop := e - q = wln w ∧ ∀ i, i < wln w → T (q + i) = WC w i
def wdf (T : Nat → Nat) (q e : Nat) : Nat → Nat → Option Nat
  | _, 0 => none
  | k, m + 1 => if eqW T q e k then some k else wdf T q e (k + 1) m
def wdx (T : Nat → Nat) (q e : Nat) : Option Nat := wdf T q e 0 24
def pkd (T : Nat → Nat) (q e k : Nat) : Nat := if q + k < e then T (q + k) - 96 else 0
def pkf (T : Nat → Nat) (q e : Nat) : Nat → Nat
  | 0 => 0
  | k + 1 => pkf T q e k * 32 + pkd T q e k
def nuv (T : Nat → Nat) (q : Nat) : Nat → Nat
  | 0 => 0
  | k + 1 => if nuv T q k ≤ 9999 then 10 * nuv T q k + (T (q + k) - 48) else nuv T q k
/-- a token: sort, value, place, next -/
abbrev TK : Type := Nat × Nat × Nat × Nat
def tS (k : TK) : Nat := k.1
def tV (k : TK) : Nat := k.2.1
def tP (k : TK) : Nat := k.2.2.1
def tN (k : TK) : Nat := k.2.2.2
abbrev sgS (c : Nat) : Prop := c = 59 ∨ c = 40 ∨ c = 41 ∨ c = 43 ∨ c = 45 ∨ c = 42 ∨ c = 47 ∨ c = 60 ∨ c = 61 ∨ c = 62
def sgn (T : Nat → Nat) (n q : Nat) : TK :=
  if T q = 60 ∧ q + 1 < n ∧ T (q + 1) = 61 then (3, 256, q, q + 2) else if T q = 60 ∧ q + 1 < n ∧ T (q + 1) = 62 then (3, 257, q, q + 2) else if T q = 62 ∧ q + 1 < n ∧ T (q + 1) = 61 then (3, 258, q, q + 2) else if sgS (T q) then (3, T q, q, q + 1) else (5, T q, q, q + 1)
def wdt (T : Nat → Nat) (q e : Nat) : TK := match wdx T q e with
  | some w => (0, w, q, e)
  | none => if e - q ≤ 6 then (1, pkf T q e 6, q, e) else (5, 0, q, e)
noncomputable def lexq (T : Nat → Nat) (n q : Nat) : TK := if n ≤ q then (4, 0, q, q) else cif (isSm (T q)) (wdt T q (gon T n isSm q)) (cif (isDg (T q)) (2, nuv T q (gon T n isDg q - q), q, gon T n isDg q) (sgn T n q))
noncomputable def lex (T : Nat → Nat) (n p : Nat) : TK := lexq T n (gon T n isWs p)
