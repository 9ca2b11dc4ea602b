/-! BITS: sets as ints -/
theorem z_or (a b : Nat) : nI a ||| nI b = nI (a ||| b) := by
  apply Int32.toBitVec_inj.1
  show BitVec.ofNat 32 a ||| BitVec.ofNat 32 b = BitVec.ofNat 32 (a ||| b)
  apply BitVec.eq_of_getLsbD_eq
  intro i hi
  simp [hi]
theorem z_and (a b : Nat) : nI a &&& nI b = nI (a &&& b) := by
  apply Int32.toBitVec_inj.1
  show BitVec.ofNat 32 a &&& BitVec.ofNat 32 b = BitVec.ofNat 32 (a &&& b)
  apply BitVec.eq_of_getLsbD_eq
  intro i hi
  simp [hi]
theorem z_smod {c : Nat} (hc : c < 32) : ((nI c).toBitVec.smod 32).toNat = c := (by decide +kernel : ∀ c, c < 32 → ((nI c).toBitVec.smod 32).toNat = c) c hc
theorem z_p2 {c : Nat} (hc : c < 31) : 2 ^ c < 2147483648 := (by decide +kernel : ∀ c, c < 31 → 2 ^ c < 2147483648) c hc
theorem z_shl {c : Nat} (hc : c < 31) : nI 1 <<< nI c = nI (2 ^ c) := by
  have := z_p2 hc
  rw [pk_shlN (n := 1) (nI c) c (z_smod (by omega)) (by omega), Nat.one_mul]
theorem z_shr {m c : Nat} (hm : m < 2147483648) (hc : c < 32) : nI m >>> nI c = nI (m / 2 ^ c) := pk_shrN hm (nI c) c (z_smod hc)
theorem z_and1 (m : Nat) : nI m &&& nI 1 = nI (m % 2) := by
  rw [z_and, show (1 : Nat) = 2 ^ 1 - 1 from rfl, Nat.and_two_pow_sub_one_eq_mod]
theorem z_tb {m c : Nat} : m / 2 ^ c % 2 = if m.testBit c then 1 else 0 := by
  have h := Nat.toNat_testBit m c
  rw [← h]
  cases m.testBit c <;> rfl
/-- is c in the set m? -/
theorem z_bit {m c : Nat} (hm : m < 2147483648) (hc : c < 31) : ((nI m >>> (nI c &&& nI 31)) &&& nI 1 = nI 0) = ¬ m.testBit c = true := by
  rw [sh31 (by omega), z_shr hm (by omega), z_and1, z_tb, eq_nI (by split <;> omega) (by omega)]
  cases m.testBit c <;> simp
theorem z_bit1 {m c : Nat} (hm : m < 2147483648) (hc : c < 31) : ((nI m >>> (nI c &&& nI 31)) &&& nI 1 = nI 1) = (m.testBit c = true) := by
  rw [sh31 (by omega), z_shr hm (by omega), z_and1, z_tb, eq_nI (by split <;> omega) (by omega)]
  cases m.testBit c <;> simp
theorem z_set {m c : Nat} (hc : c < 31) : nI m ||| (nI 1 <<< (nI c &&& nI 31)) = nI (m ||| 2 ^ c) := by
  rw [sh31 (by omega), z_shl hc, z_or]
theorem z_one {c : Nat} (hc : c < 31) : nI 1 <<< (nI c &&& nI 31) = nI (2 ^ c) := by
  rw [sh31 (by omega), z_shl hc]
theorem tb_set (n j i : Nat) : (n ||| 2 ^ j).testBit i = true ↔ n.testBit i = true ∨ i = j := by
  rw [Nat.testBit_or, Nat.testBit_two_pow]
  by_cases h : j = i
  · subst h; simp
  · have h2 : ¬ i = j := fun e => h e.symm
    simp [h, h2]
theorem or_b {a b k : Nat} (ha : a < 2 ^ k) (hb : b < 2 ^ k) : a ||| b < 2 ^ k := Nat.or_lt_two_pow ha hb
theorem pw_b {c k : Nat} (h : c < k) : 2 ^ c < 2 ^ k := Nat.pow_lt_pow_right (by decide) h
theorem full_iff {m n : Nat} (hb : m < 2 ^ n) : m = 2 ^ n - 1 ↔ ∀ c, c < n → m.testBit c = true := by
  constructor
  · intro h c hc
    rw [h, Nat.testBit_two_pow_sub_one]; simp [hc]
  · intro h
    apply Nat.eq_of_testBit_eq
    intro i
    rw [Nat.testBit_two_pow_sub_one]
    by_cases q : i < n
    · rw [h i q]; simp [q]
    · rw [Nat.testBit_lt_two_pow (Nat.lt_of_lt_of_le hb (Nat.pow_le_pow_right (by decide) (by omega)))]; simp [q]
/-- as bq_s, but not by simp's own unfolding: where a division stands -/
theorem bq_n {α β : Type} (f : α → Option β) (u : UU f) (x : α) : bq f u (some x) = f x := id (Eq.refl (f x))
