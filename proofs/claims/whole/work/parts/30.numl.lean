/-! LONGS as iL, ints of either sign as jI; loops -/
def iL (z : Int) : Int64 := Int64.ofInt z
def jI (z : Int) : Int32 := Int32.ofInt z
theorem iL_t {z : Int} (h : -9223372036854775808 ≤ z) (h2 : z < 9223372036854775808) : (iL z).toInt = z := by
  unfold iL
  rw [Int64.toInt_ofInt, show Int64.size = 18446744073709551616 from rfl]
  exact Int.bmod_eq_of_le (by omega) (by omega)
theorem jI_t {z : Int} (h : -2147483648 ≤ z) (h2 : z < 2147483648) : (jI z).toInt = z := by
  unfold jI
  rw [Int32.toInt_ofInt, show Int32.size = 4294967296 from rfl]
  exact Int.bmod_eq_of_le (by omega) (by omega)
theorem jI_n (n : Nat) : nI n = jI (n : Int) := Int32.ofInt_eq_ofNat.symm
theorem jI_m (n : Nat) : mI n = jI (-(n : Int)) := by
  unfold mI jI
  rw [Int32.ofInt_neg, jI_n]; rfl
theorem jI_of (x : Int32) : x = jI x.toInt := (Int32.ofInt_toInt x).symm
theorem iL_of (x : Int64) : x = iL x.toInt := (Int64.ofInt_toInt x).symm
theorem jadd (a b : Int) : jI a + jI b = jI (a + b) := (Int32.ofInt_add a b).symm
theorem jsub (a b : Int) : jI a - jI b = jI (a - b) := (Int32.ofInt_sub a b).symm
theorem jmul (a b : Int) : jI a * jI b = jI (a * b) := (Int32.ofInt_mul a b).symm
theorem iadd (a b : Int) : iL a + iL b = iL (a + b) := (Int64.ofInt_add a b).symm
theorem isub (a b : Int) : iL a - iL b = iL (a - b) := (Int64.ofInt_sub a b).symm
theorem imul (a b : Int) : iL a * iL b = iL (a * b) := (Int64.ofInt_mul a b).symm
theorem ineg (a : Int) : - iL a = iL (-a) := (Int64.ofInt_neg a).symm
abbrev JB (z : Int) : Prop := -2147483648 ≤ z ∧ z < 2147483648
abbrev LB (z : Int) : Prop := -9223372036854775808 ≤ z ∧ z < 9223372036854775808
theorem jle {a b : Int} (ha : JB a) (hb : JB b) : (jI a ≤ jI b) = (a ≤ b) := by
  rw [Int32.le_iff_toInt_le, jI_t ha.1 ha.2, jI_t hb.1 hb.2]
theorem jlt {a b : Int} (ha : JB a) (hb : JB b) : (jI a < jI b) = (a < b) := by
  rw [Int32.lt_iff_toInt_lt, jI_t ha.1 ha.2, jI_t hb.1 hb.2]
theorem jeq {a b : Int} (ha : JB a) (hb : JB b) : (jI a = jI b) = (a = b) := by
  rw [← Int32.toInt_inj, jI_t ha.1 ha.2, jI_t hb.1 hb.2]
theorem ile {a b : Int} (ha : LB a) (hb : LB b) : (iL a ≤ iL b) = (a ≤ b) := by
  rw [Int64.le_iff_toInt_le, iL_t ha.1 ha.2, iL_t hb.1 hb.2]
theorem ilt {a b : Int} (ha : LB a) (hb : LB b) : (iL a < iL b) = (a < b) := by
  rw [Int64.lt_iff_toInt_lt, iL_t ha.1 ha.2, iL_t hb.1 hb.2]
theorem ieq {a b : Int} (ha : LB a) (hb : LB b) : (iL a = iL b) = (a = b) := by
  rw [← Int64.toInt_inj, iL_t ha.1 ha.2, iL_t hb.1 hb.2]
theorem cmp_v {a b : Int} (ha : LB a) (hb : LB b) : lg_cmp (iL a) (iL b) = if b < a then nI 1 else if a = b then nI 0 else mI 1 := by
  unfold lg_cmp
  simp only [gt_iff_lt, ilt hb ha, ieq ha hb]
  rfl
theorem cmp_e {a b : Int} (ha : LB a) (hb : LB b) : (lg_cmp (iL a) (iL b) = nI 0) = (a = b) := by
  rw [cmp_v ha hb]
  by_cases h1 : b < a
  · rw [if_pos h1]; exact propext ⟨fun q => absurd q (by decide), fun q => by omega⟩
  · rw [if_neg h1]
    by_cases h2 : a = b
    · rw [if_pos h2]; exact propext ⟨fun _ => h2, fun _ => rfl⟩
    · rw [if_neg h2]; exact propext ⟨fun q => absurd q (by decide), fun q => absurd q h2⟩
theorem cmp_le {a b : Int} (ha : LB a) (hb : LB b) : (lg_cmp (iL a) (iL b) ≤ nI 0) = (a ≤ b) := by
  rw [cmp_v ha hb]
  by_cases h1 : b < a
  · rw [if_pos h1]; exact propext ⟨fun q => absurd q (by decide), fun q => by omega⟩
  · rw [if_neg h1]
    by_cases h2 : a = b
    · rw [if_pos h2]; exact propext ⟨fun _ => by omega, fun _ => by decide⟩
    · rw [if_neg h2]; exact propext ⟨fun q => by omega, fun q => by decide⟩
theorem cmp_lt {a b : Int} (ha : LB a) (hb : LB b) : (lg_cmp (iL a) (iL b) < nI 0) = (a < b) := by
  rw [cmp_v ha hb]
  by_cases h1 : b < a
  · rw [if_pos h1]; exact propext ⟨fun q => absurd q (by decide), fun q => by omega⟩
  · rw [if_neg h1]
    by_cases h2 : a = b
    · rw [if_pos h2]; exact propext ⟨fun q => absurd q (by decide), fun q => by omega⟩
    · rw [if_neg h2]; exact propext ⟨fun q => by omega, fun q => by decide⟩
theorem cmp_ge {a b : Int} (ha : LB a) (hb : LB b) : (nI 0 ≤ lg_cmp (iL a) (iL b)) = (b ≤ a) := by
  rw [cmp_v ha hb]
  by_cases h1 : b < a
  · rw [if_pos h1]; exact propext ⟨fun q => by omega, fun q => by decide⟩
  · rw [if_neg h1]
    by_cases h2 : a = b
    · rw [if_pos h2]; exact propext ⟨fun q => by omega, fun q => by decide⟩
    · rw [if_neg h2]; exact propext ⟨fun q => absurd q (by decide), fun q => by omega⟩
theorem cmp_gt {a b : Int} (ha : LB a) (hb : LB b) : (nI 0 < lg_cmp (iL a) (iL b)) = (b < a) := by
  rw [cmp_v ha hb]
  by_cases h1 : b < a
  · rw [if_pos h1]; exact propext ⟨fun q => by omega, fun q => by decide⟩
  · rw [if_neg h1]
    by_cases h2 : a = b
    · rw [if_pos h2]; exact propext ⟨fun q => absurd q (by decide), fun q => by omega⟩
    · rw [if_neg h2]; exact propext ⟨fun q => absurd q (by decide), fun q => by omega⟩
theorem toL_j {z : Int} (h : JB z) : Int32.toInt64 (jI z) = iL z := by
  apply Int64.toInt_inj.mp
  rw [Int32.toInt_toInt64, jI_t h.1 h.2, iL_t (by unfold JB at h; omega) (by unfold JB at h; omega)]
theorem toL_n {n : Nat} (h : n < 2147483648) : Int32.toInt64 (nI n) = iL (n : Int) := by
  rw [jI_n, toL_j ⟨by omega, by omega⟩]
theorem toL_x (x : Int32) : Int32.toInt64 x = iL x.toInt := by
  apply Int64.toInt_inj.mp
  have h1 := x.toInt_lt
  have h2 := x.le_toInt
  rw [Int32.toInt_toInt64, iL_t (by omega) (by omega)]
theorem maxl_i {a b : Int} (ha : LB a) (hb : LB b) : op_maxl (iL a) (iL b) = iL (max a b) := by
  unfold op_maxl
  simp only [ilt hb ha]
  split <;> congr 1 <;> omega
theorem minl_i {a b : Int} (ha : LB a) (hb : LB b) : op_minl (iL a) (iL b) = iL (min a b) := by
  unfold op_minl
  simp only [ilt hb ha]
  split <;> congr 1 <;> omega
theorem maxi_j {a b : Int} (ha : JB a) (hb : JB b) : op_maxi (jI a) (jI b) = jI (max a b) := by
  unfold op_maxi
  simp only [jlt ha hb]
  split <;> congr 1 <;> omega
theorem mini_j {a b : Int} (ha : JB a) (hb : JB b) : op_mini (jI a) (jI b) = jI (min a b) := by
  unfold op_mini
  simp only [jlt hb ha]
  split <;> congr 1 <;> omega
theorem ldiv_i {a b : Int} (ha : -9223372036854775808 < a) (ha2 : a < 9223372036854775808) (hb : LB b) (h0 : b ≠ 0) : op_ldiv (iL a) (iL b) = some (iL (a.tdiv b)) := by
  unfold op_ldiv
  have hab : LB a := ⟨by omega, ha2⟩
  have h1 : ¬ iL b = 0 := by
    rw [show (0 : Int64) = iL 0 from rfl, ieq hb ⟨by omega, by omega⟩]; exact h0
  rw [if_neg h1]
  congr 1
  apply Int64.toInt_inj.mp
  have h3 : a.natAbs / b.natAbs ≤ a.natAbs := Nat.div_le_self _ _
  have h4 : (a.tdiv b).natAbs = a.natAbs / b.natAbs := Int.natAbs_tdiv a b
  rw [Int64.toInt_div_of_ne_left, iL_t hab.1 hab.2, iL_t hb.1 hb.2, iL_t (by omega) (by omega)]
  rw [show Int64.minValue = iL (-9223372036854775808) from rfl, Ne, ieq hab ⟨by omega, by omega⟩]
  omega
theorem absl_i {a : Int} (ha : -9223372036854775808 < a) (ha2 : a < 9223372036854775808) : op_absl (iL a) = iL (a.natAbs : Int) := by
  unfold op_absl
  simp only [show (0 : Int64) = iL 0 from rfl, ilt (show LB 0 from ⟨by omega, by omega⟩) (show LB a from ⟨by omega, ha2⟩)]
  split
  · congr 1; omega
  · rw [ineg]; congr 1; omega
theorem div_j {a b : Int} (ha : -2147483648 < a) (ha2 : a < 2147483648) (hb : JB b) (h0 : b ≠ 0) : op_div (jI a) (jI b) = some (jI (a.tdiv b)) := by
  unfold op_div
  have hab : JB a := ⟨by omega, ha2⟩
  have h1 : ¬ jI b = 0 := by
    rw [show (0 : Int32) = jI 0 from rfl, jeq hb ⟨by omega, by omega⟩]; exact h0
  rw [if_neg h1]
  congr 1
  apply Int32.toInt_inj.mp
  have h3 : a.natAbs / b.natAbs ≤ a.natAbs := Nat.div_le_self _ _
  have h4 : (a.tdiv b).natAbs = a.natAbs / b.natAbs := Int.natAbs_tdiv a b
  rw [Int32.toInt_div_of_ne_left, jI_t hab.1 hab.2, jI_t hb.1 hb.2, jI_t (by omega) (by omega)]
  rw [show Int32.minValue = jI (-2147483648) from rfl, Ne, jeq hab ⟨by omega, by omega⟩]
  omega
theorem q_0 : (0 : Int64) = iL 0 := rfl
theorem q_1 : (1 : Int64) = iL 1 := rfl
theorem q_100 : (100 : Int64) = iL 100 := rfl
theorem q_9999 : (9999 : Int64) = iL 9999 := rfl
theorem q_1000000000000 : (1000000000000 : Int64) = iL 1000000000000 := rfl
theorem q_100000000000000000 : (100000000000000000 : Int64) = iL 100000000000000000 := rfl
theorem q_4000000000000000000 : (4000000000000000000 : Int64) = iL 4000000000000000000 := rfl
theorem q_4611686018427387903 : (4611686018427387903 : Int64) = iL 4611686018427387903 := rfl
theorem q_9223372036854775807 : (9223372036854775807 : Int64) = iL 9223372036854775807 := rfl
theorem q_m1 : (-1 : Int64) = iL (-1) := rfl
theorem q_m2 : (-2 : Int64) = iL (-2) := rfl
theorem q_m9 : (-9 : Int64) = iL (-9) := rfl
theorem q_m1000000000000 : (-1000000000000 : Int64) = iL (-1000000000000) := rfl
theorem q_m9223372036854775808 : (-9223372036854775808 : Int64) = iL (-9223372036854775808) := rfl
/-- a loop that counts up: one step goes on, or it is the end -/
theorem lp_up {S β : Type} (F : Nat → Nat → S → Option β) (n : Nat) (I : Nat → S → Prop) (P : Option β → Prop)
    (st : ∀ k fu s, k < n → I k s → P (F (fu + 1) k s) ∨ ∃ s', I (k + 1) s' ∧ F (fu + 1) k s = F fu (k + 1) s')
    (en : ∀ fu s, I n s → P (F (fu + 1) n s)) : ∀ m k fu s, k + m = n → m < fu → I k s → P (F fu k s) := by
  intro m
  induction m with
  | zero =>
    intro k fu s hk hf hi
    obtain ⟨fu, rfl⟩ : ∃ q, fu = q + 1 := ⟨fu - 1, by omega⟩
    obtain rfl : k = n := by omega
    exact en fu s hi
  | succ m ih =>
    intro k fu s hk hf hi
    obtain ⟨fu, rfl⟩ : ∃ q, fu = q + 1 := ⟨fu - 1, by omega⟩
    rcases st k fu s (by omega) hi with h | ⟨s', h1, h2⟩
    · exact h
    · rw [h2]
      exact ih (k + 1) fu s' (by omega) (by omega) h1
/-- a loop under a measure -/
theorem lp_ms {S β : Type} (F : Nat → S → Option β) (I : Nat → S → Prop) (P : Option β → Prop)
    (st : ∀ m fu s, I m s → P (F (fu + 1) s) ∨ ∃ m' s', m' < m ∧ I m' s' ∧ F (fu + 1) s = F fu s') : ∀ m fu s, m < fu → I m s → P (F fu s) := by
  intro m
  induction m using Nat.strongRecOn with
  | _ m ih =>
    intro fu s hf hi
    obtain ⟨fu, rfl⟩ : ∃ q, fu = q + 1 := ⟨fu - 1, by omega⟩
    rcases st m fu s hi with h | ⟨m', s', h0, h1, h2⟩
    · exact h
    · rw [h2]
      exact ih m' h0 fu s' (by omega) h1
def Ok {α : Type} (o : Option α) (P : α → Prop) : Prop := ∃ x, o = some x ∧ P x
theorem Ok.mk {α : Type} {o : Option α} {P : α → Prop} {x : α} (h : o = some x) (hp : P x) : Ok o P := ⟨x, h, hp⟩
theorem Ok.mono {α : Type} {o : Option α} {P Q : α → Prop} (h : Ok o P) (hp : ∀ x, P x → Q x) : Ok o Q := by
  obtain ⟨x, h1, h2⟩ := h
  exact ⟨x, h1, hp x h2⟩
theorem Ok.bd {α β : Type} {o : Option α} {f : α → Option β} {P : α → Prop} {Q : β → Prop} (h : Ok o P) (hp : ∀ x, P x → Ok (f x) Q) : Ok (o.bind f) Q := by
  obtain ⟨x, h1, h2⟩ := h
  rw [h1]
  exact hp x h2
