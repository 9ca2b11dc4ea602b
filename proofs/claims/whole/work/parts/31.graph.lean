/-! GRAPHS: n corners, each with at most one next -/
theorem php : ∀ (n : Nat) (g : Nat → Nat), (∀ i, i ≤ n → g i < n) → ∃ i j, i < j ∧ j ≤ n ∧ g i = g j := by
  intro n
  induction n with
  | zero => intro g h; exact absurd (h 0 (Nat.le_refl _)) (by omega)
  | succ n ih =>
    intro g h
    by_cases q : ∃ i, i ≤ n ∧ g i = g (n + 1)
    · obtain ⟨i, hi, e⟩ := q
      exact ⟨i, n + 1, by omega, by omega, e⟩
    · have hne : ∀ i, i ≤ n → g i ≠ g (n + 1) := fun i hi e => q ⟨i, hi, e⟩
      have hv := h (n + 1) (by omega)
      have hlt : ∀ i, i ≤ n → (if g (n + 1) < g i then g i - 1 else g i) < n := by
        intro i hi
        have a1 := h i (by omega)
        have a2 := hne i hi
        split <;> omega
      obtain ⟨i, j, h1, h2, h3⟩ := ih (fun i => if g (n + 1) < g i then g i - 1 else g i) hlt
      refine ⟨i, j, h1, by omega, ?_⟩
      have a1 := hne i (by omega)
      have a2 := hne j (by omega)
      have h3 : (if g (n + 1) < g i then g i - 1 else g i) = (if g (n + 1) < g j then g j - 1 else g j) := h3
      split at h3 <;> split at h3 <;> omega
def itn (nx : Nat → Option Nat) : Nat → Nat → Option Nat
  | 0, c => some c
  | k + 1, c => (nx c).bind (itn nx k)
theorem itn_add (nx : Nat → Option Nat) (a b c : Nat) : itn nx (a + b) c = (itn nx a c).bind (itn nx b) := by
  induction a generalizing c with
  | zero => rw [Nat.zero_add]; rfl
  | succ a ih =>
    rw [show a + 1 + b = (a + b) + 1 by omega]
    show (nx c).bind (itn nx (a + b)) = ((nx c).bind (itn nx a)).bind (itn nx b)
    cases nx c with
    | none => rfl
    | some k => exact ih k
theorem itn_1 (nx : Nat → Option Nat) (c : Nat) : itn nx 1 c = nx c := by
  show (nx c).bind (fun x => some x) = nx c
  cases nx c <;> rfl
theorem itn_s (nx : Nat → Option Nat) (k c : Nat) : itn nx (k + 1) c = (itn nx k c).bind nx := by
  rw [itn_add]
  congr 1
  exact funext fun x => itn_1 nx x
section
variable {nx : Nat → Option Nat} {n : Nat}
theorem itn_lt (hn : ∀ c k, c < n → nx c = some k → k < n) {x : Nat} (hx : x < n) : ∀ {i y : Nat}, itn nx i x = some y → y < n := by
  intro i
  induction i with
  | zero => intro y h; cases h; exact hx
  | succ i ih =>
    intro y h
    rw [itn_s] at h
    cases e : itn nx i x with
    | none => rw [e] at h; cases h
    | some z => rw [e] at h; exact hn z y (ih e) h
/-- in a ring -/
def Rg (nx : Nat → Option Nat) (n c : Nat) : Prop := ∃ k, k < n ∧ itn nx (k + 1) c = some c
/-- nothing of length d comes to it -/
def Hd (nx : Nat → Option Nat) (n : Nat) : Nat → Nat → Prop
  | 0, _ => False
  | d + 1, c => ∀ o, o < n → nx o = some c → Hd nx n d o
theorem Hd_s {d c : Nat} (h : Hd nx n d c) : Hd nx n (d + 1) c := by
  induction d generalizing c with
  | zero => exact h.elim
  | succ d ih => exact fun o ho e => ih (h o ho e)
theorem Hd_le {d e c : Nat} (h : Hd nx n d c) (he : d ≤ e) : Hd nx n e c := by
  induction e with
  | zero => rw [show d = 0 by omega] at h; exact h
  | succ e ih =>
    by_cases q : d = e + 1
    · rw [← q]; exact h
    · exact Hd_s (ih (by omega))
theorem nHd {d c : Nat} (hc : c < n) (h : ¬ Hd nx n d c) : ∃ x, x < n ∧ itn nx d x = some c := by
  induction d generalizing c with
  | zero => exact ⟨c, hc, rfl⟩
  | succ d ih =>
    have h1 : ∃ o, o < n ∧ nx o = some c ∧ ¬ Hd nx n d o := by
      apply Classical.byContradiction
      intro q
      exact h (fun o ho e => Classical.byContradiction fun r => q ⟨o, ho, e, r⟩)
    obtain ⟨o, ho, e, r⟩ := h1
    obtain ⟨x, hx, hi⟩ := ih ho r
    exact ⟨x, hx, by rw [itn_s, hi]; exact e⟩
theorem Rg_of (hn : ∀ c k, c < n → nx c = some k → k < n) {x c : Nat} (hx : x < n) (h : itn nx n x = some c) : Rg nx n c := by
  have hd : ∀ i, i ≤ n → ∃ y, itn nx i x = some y ∧ itn nx (n - i) y = some c := by
    intro i hi
    have h1 := h
    rw [show n = i + (n - i) by omega, itn_add] at h1
    cases e : itn nx i x with
    | none => rw [e] at h1; cases h1
    | some y => rw [e] at h1; exact ⟨y, rfl, h1⟩
  obtain ⟨i, j, hij, hj, he⟩ := php n (fun i => (itn nx i x).getD 0) (by
    intro i hi
    obtain ⟨y, hy, -⟩ := hd i hi
    show (itn nx i x).getD 0 < n
    rw [hy]
    exact itn_lt hn hx hy)
  obtain ⟨y, hy, hyc⟩ := hd i (by omega)
  obtain ⟨z, hz, hzc⟩ := hd j hj
  have hyz : y = z := by
    have he : (itn nx i x).getD 0 = (itn nx j x).getD 0 := he
    rw [hy, hz] at he
    exact he
  subst hyz
  have hr : itn nx (j - i) y = some y := by
    rw [show j = i + (j - i) by omega, itn_add, hy] at hz
    exact hz
  refine ⟨j - i - 1, by omega, ?_⟩
  rw [show j - i - 1 + 1 = j - i by omega]
  have h2 : itn nx ((n - i) + (j - i)) y = itn nx (j - i) c := by rw [itn_add, hyc]; rfl
  have h3 : itn nx ((j - i) + (n - i)) y = some c := by rw [itn_add, hr]; exact hyc
  rw [← h2, Nat.add_comm]
  exact h3
theorem Rg_or (hn : ∀ c k, c < n → nx c = some k → k < n) {c : Nat} (hc : c < n) : Rg nx n c ∨ Hd nx n n c := by
  by_cases h : Hd nx n n c
  · exact Or.inr h
  · obtain ⟨x, hx, hi⟩ := nHd hc h
    exact Or.inl (Rg_of hn hx hi)
theorem Rg_pre (hn : ∀ c k, c < n → nx c = some k → k < n) {c : Nat} (hc : c < n) (h : Rg nx n c) : ∃ o, o < n ∧ nx o = some c ∧ Rg nx n o := by
  obtain ⟨k, hk, e⟩ := h
  have e0 := e
  rw [itn_s] at e
  cases e1 : itn nx k c with
  | none => rw [e1] at e; cases e
  | some o =>
    rw [e1] at e
    have e : nx o = some c := e
    refine ⟨o, itn_lt hn hc e1, e, k, hk, ?_⟩
    show (nx o).bind (itn nx k) = some o
    rw [e]
    exact e1
theorem Rg_nxt {c k : Nat} (h : Rg nx n c) (e : nx c = some k) : Rg nx n k := by
  obtain ⟨j, hj, e1⟩ := h
  refine ⟨j, hj, ?_⟩
  have h1 : itn nx (1 + (j + 1)) c = itn nx (j + 1) k := by rw [itn_add, itn_1, e]; rfl
  rw [← h1, Nat.add_comm, itn_add, e1]
  show itn nx 1 c = some k
  rw [itn_1, e]
theorem Rg_nHd (hn : ∀ c k, c < n → nx c = some k → k < n) {d c : Nat} (hc : c < n) (h : Rg nx n c) : ¬ Hd nx n d c := by
  induction d generalizing c with
  | zero => exact fun q => q
  | succ d ih =>
    intro q
    obtain ⟨o, ho, e, r⟩ := Rg_pre hn hc h
    exact ih ho r (q o ho e)
theorem Rg_in {c : Nat} (h : Rg nx n c) : ∃ k, nx c = some k := by
  obtain ⟨k, hk, e⟩ := h
  cases h1 : nx c with
  | none =>
    have e : (nx c).bind (itn nx k) = some c := e
    rw [h1] at e
    cases e
  | some y => exact ⟨y, rfl⟩
end
/-- sums -/
def sm (f : Nat → Nat) : Nat → Nat
  | 0 => 0
  | k + 1 => sm f k + f k
theorem sm_eq {f g : Nat → Nat} {n : Nat} (h : ∀ o, o < n → f o = g o) : sm f n = sm g n := by
  induction n with
  | zero => rfl
  | succ n ih =>
    show sm f n + f n = sm g n + g n
    rw [ih (fun o ho => h o (by omega)), h n (by omega)]
theorem sm_le {f : Nat → Nat} {n B : Nat} (h : ∀ o, o < n → f o ≤ B) : sm f n ≤ n * B := by
  induction n with
  | zero => exact Nat.zero_le _
  | succ n ih =>
    show sm f n + f n ≤ _
    have h1 := ih (fun o ho => h o (by omega))
    have h2 := h n (by omega)
    rw [Nat.succ_mul]
    omega
theorem sm_add (f g : Nat → Nat) (n : Nat) : sm (fun o => f o + g o) n = sm f n + sm g n := by
  induction n with
  | zero => rfl
  | succ n ih =>
    show sm (fun o => f o + g o) n + (f n + g n) = sm f n + f n + (sm g n + g n)
    rw [ih]; omega
theorem sm_0 {f : Nat → Nat} {n : Nat} (h : ∀ o, o < n → f o = 0) : sm f n = 0 := by
  induction n with
  | zero => rfl
  | succ n ih =>
    show sm f n + f n = 0
    rw [ih (fun o ho => h o (by omega)), h n (by omega)]
/-- one more of them is counted in -/
theorem sm_one {f g : Nat → Nat} {n x v : Nat} (hx : x < n) (h : ∀ o, o < n → o ≠ x → f o = g o) (h1 : f x = g x + v) : sm f n = sm g n + v := by
  induction n with
  | zero => omega
  | succ n ih =>
    show sm f n + f n = sm g n + g n + v
    by_cases q : n = x
    · subst q
      rw [sm_eq (fun o ho => h o (by omega) (by omega)), h1]; omega
    · rw [ih (by omega) (fun o ho => h o (by omega)), h n (by omega) q]; omega
/-- what runs to a corner at an hour: of its own, and what those that run to it take, as many hours ago as they need -/
def inf (nx : Nat → Option Nat) (n : Nat) (hr : Nat → Nat) (li : Nat → Nat → Nat) (ra : Nat → Nat → Nat) : Nat → Nat → Nat → Nat
  | 0, _, _ => 0
  | d + 1, c, t => ra c t + sm (fun o => if nx o = some c ∧ hr o ≤ t then li o (inf nx n hr li ra d o (t - hr o)) else 0) n
section
variable {nx : Nat → Option Nat} {n : Nat} {hr : Nat → Nat} {li : Nat → Nat → Nat} {ra : Nat → Nat → Nat}
theorem inf_st {d c t : Nat} (h : Hd nx n d c) : inf nx n hr li ra (d + 1) c t = inf nx n hr li ra d c t := by
  induction d generalizing c t with
  | zero => exact h.elim
  | succ d ih =>
    show ra c t + _ = ra c t + _
    congr 1
    refine sm_eq fun o ho => ?_
    by_cases q : nx o = some c ∧ hr o ≤ t
    · rw [if_pos q, if_pos q, ih (h o ho q.1)]
    · rw [if_neg q, if_neg q]
theorem inf_fx {c t : Nat} (h : Hd nx n n c) : inf nx n hr li ra n c t = ra c t + sm (fun o => if nx o = some c ∧ hr o ≤ t then li o (inf nx n hr li ra n o (t - hr o)) else 0) n := (inf_st h).symm
def ifb : Nat → Nat
  | 0 => 0
  | d + 1 => 9801 + 7 * ifb d
theorem inf_b (hn : n ≤ 7) (hl : ∀ o x, li o x ≤ x) (hra : ∀ c t, ra c t ≤ 9801) (d c t : Nat) : inf nx n hr li ra d c t ≤ ifb d := by
  induction d generalizing c t with
  | zero => exact Nat.le_refl _
  | succ d ih =>
    show ra c t + _ ≤ 9801 + 7 * ifb d
    have h1 := hra c t
    have h2 := sm_le (f := fun o => if nx o = some c ∧ hr o ≤ t then li o (inf nx n hr li ra d o (t - hr o)) else 0) (n := n) (B := ifb d) (by
      intro o ho
      show (if _ then _ else _) ≤ _
      split
      · exact Nat.le_trans (hl _ _) (ih _ _)
      · exact Nat.zero_le _)
    have h3 : n * ifb d ≤ 7 * ifb d := Nat.mul_le_mul_right _ hn
    omega
theorem ifb_7 {d : Nat} (h : d ≤ 7) : ifb d ≤ 1400000000 := (by decide : ∀ d, d < 8 → ifb d ≤ 1400000000) d (by omega)
end
