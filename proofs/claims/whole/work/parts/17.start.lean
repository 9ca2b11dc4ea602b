/-! THE CLAIM OUT OF ONE WALK OF THE LAW'S BODY. Your part is whole_start (and what it stands on); all else here is the same for every law, but numbers. -/
def R_law : String := "RiverDrainsLaw"
def lw_P (b : Addr) (xs : List Int32) (args : Array Value) (s : State) : Prop := args = #[.ref b] ∧ s.IntsAt b xs ∧ xs.length ≤ 384 ∧ (Jvm.Cond.and given_1 narrow_1).before args s = true
def lw_Q (_ : Array Value) (s : State) (o : Outcome) (t : State) : Prop := o = .returned (some (.int 1)) ∧ Framed s o t [] 600128 7301098
def lw_Z (below : List Frame) (a : Array Value) (s : State) : State → Prop := fun t => ∃ o, t.status = .running ∧ Ended t below o ∧ lw_Q a s o t
/-- the law's own end, with 1 on the stack, nothing written that was there before, its room as the claim has it -/
theorem lw_ret {p : Program} {l : Launch} {e : Env} {s : State} {m : MethodId} {below : List Frame} {meth : Method} {c : Code} {b : Nat} (hx : p.tables.exec = Jvm.exec) (hb : c.code = code) (hr : meth.sig.returnType = ret) (hlocks : meth.locks = false) {pc : Nat} {H : Heap} {ls : Array Slot} (hdg : decode code pc = .ok (.ireturn, 1)) : W p l e room_1 s m #[Value.ref b] below meth c H [] 600128 7301098 (lw_Z below #[Value.ref b] s) (F0 m pc ls [.int 1]) := by
  intro T hT X
  obtain ⟨fs, hret, hrun, hended, hW, hframe⟩ := X.leave (v := some (.int 1)) (hlocks := hlocks) (fun h => by rw [hr] at h; cases h)
  have hmeth' : T.vm.method? m = some meth := X.method'
  refine ⟨T.setFrames fs, ?_, .returned (some (.int 1)), hrun, hended, rfl, ⟨_, rfl⟩, hW, hframe⟩
  jvm_step X.here [X.here.top, hx, hb, hdg, hmeth', hr, ret, narrow_b1]
  (try refine ⟨rfl, ?_⟩); (try refine ⟨rfl, ?_⟩)
  first | (intro acts; rw [hret _ acts rfl rfl rfl]) | rw [hret _ _ rfl rfl rfl]
  exact Steps.refl _
/-- what holds at the law's entry: the machine, the code, the tables' words (any of lw_tbl by 'hts w (by decide +kernel)'), the script of L ints xs at the cell b, what the Statement gives of the start (any of its parts by flat_of_before) -/
def lw_At (p : Program) (s : State) (m : MethodId) (meth : Method) (c : Code) (b L : Nat) (xs : Nat → Int32) : Prop :=
  p.tables.exec = Jvm.exec ∧ c.code = code ∧ meth.sig.returnType = ret ∧ c.maxLocals = 7 ∧ s.vm.findClass R_law = some m.cls ∧ (∀ w ∈ lw_tbl, w.before #[Value.ref b] s = true) ∧ va_X b L xs s s.heap ∧ b < s.heap.size ∧ meth.locks = false ∧ (Jvm.Cond.and given_1 narrow_1).before #[Value.ref b] s = true

/-! THE FIXED THINGS at the law's entry -/
theorem st_tbl {b : Nat} {s : State} (hts : ∀ w ∈ lw_tbl, w.before #[Value.ref b] s = true) : ∀ w ∈ ah_TW, w.before #[Value.ref b] s = true := fun w h => hts w (List.mem_filter.mp h).1
theorem st_i0 : Cond.instantiable RX0 20 ∈ ah_TW := ah_m3 10 (by decide +kernel)
theorem st_i1 : Cond.instantiable RX1 9 ∈ ah_TW := ah_m2 169 (by decide +kernel)
theorem st_i2 : Cond.instantiable RX2 7 ∈ ah_TW := ah_m2 65 (by decide +kernel)
theorem st_i3 : Cond.instantiable RX3 7 ∈ ah_TW := ah_m2 163 (by decide +kernel)
theorem st_i4 : Cond.instantiable RX4 8 ∈ ah_TW := ah_m1 44 (by decide +kernel)
theorem st_i5 : Cond.instantiable RX5 9 ∈ ah_TW := ah_m2 111 (by decide +kernel)
theorem st_i6 : Cond.instantiable RX6 5 ∈ ah_TW := ah_m3 121 (by decide +kernel)
theorem st_i7 : Cond.instantiable RX7 5 ∈ ah_TW := ah_m1 197 (by decide +kernel)
theorem st_i8 : Cond.instantiable RX8 11 ∈ ah_TW := ah_m1 203 (by decide +kernel)
theorem st_i9 : Cond.instantiable RX9 16 ∈ ah_TW := ah_m1 36 (by decide +kernel)
theorem st_i10 : Cond.instantiable RX10 8 ∈ ah_TW := ah_m3 4 (by decide +kernel)
theorem st_i11 : Cond.instantiable RX11 9 ∈ ah_TW := ah_m1 28 (by decide +kernel)
theorem st_i12 : Cond.instantiable RX12 69 ∈ ah_TW := ah_m6 214 (by decide +kernel)
theorem st_cl {b : Nat} {s : State} (hts : ∀ w ∈ ah_TW, w.before #[Value.ref b] s = true) : ∃ (dC : Nat → ClassId) (dI : Nat → Nat → Nat), ∀ (k : Nat) (q : vw_C), vwCl[k]? = some q → u_Kn s q.1 q.2.1 q.2.2 (dC k) (dI k) := by
  have h0 : ∀ k : Nat, ∃ x : ClassId × (Nat → Nat), ∀ q : vw_C, vwCl[k]? = some q → u_Kn s q.1 q.2.1 q.2.2 x.1 x.2 := by
    intro k
    match k with
    | 0 => obtain ⟨c, i, h⟩ := u_known (C := RX0) (T := TX0) (N := 20) (n := 20) hts ix_X0 (hts _ st_i0); exact ⟨(c, i), fun q hq => by cases hq; exact h⟩
    | 1 => obtain ⟨c, i, h⟩ := u_known (C := RX1) (T := TX1) (N := 9) (n := 9) hts ix_X1 (hts _ st_i1); exact ⟨(c, i), fun q hq => by cases hq; exact h⟩
    | 2 => obtain ⟨c, i, h⟩ := u_known (C := RX2) (T := TX2) (N := 7) (n := 7) hts ix_X2 (hts _ st_i2); exact ⟨(c, i), fun q hq => by cases hq; exact h⟩
    | 3 => obtain ⟨c, i, h⟩ := u_known (C := RX3) (T := TX3) (N := 7) (n := 7) hts ix_X3 (hts _ st_i3); exact ⟨(c, i), fun q hq => by cases hq; exact h⟩
    | 4 => obtain ⟨c, i, h⟩ := u_known (C := RX4) (T := TX4) (N := 8) (n := 8) hts ix_X4 (hts _ st_i4); exact ⟨(c, i), fun q hq => by cases hq; exact h⟩
    | 5 => obtain ⟨c, i, h⟩ := u_known (C := RX5) (T := TX5) (N := 9) (n := 9) hts ix_X5 (hts _ st_i5); exact ⟨(c, i), fun q hq => by cases hq; exact h⟩
    | 6 => obtain ⟨c, i, h⟩ := u_known (C := RX6) (T := TX6) (N := 5) (n := 5) hts ix_X6 (hts _ st_i6); exact ⟨(c, i), fun q hq => by cases hq; exact h⟩
    | 7 => obtain ⟨c, i, h⟩ := u_known (C := RX7) (T := TX7) (N := 5) (n := 5) hts ix_X7 (hts _ st_i7); exact ⟨(c, i), fun q hq => by cases hq; exact h⟩
    | 8 => obtain ⟨c, i, h⟩ := u_known (C := RX8) (T := TX8) (N := 11) (n := 11) hts ix_X8 (hts _ st_i8); exact ⟨(c, i), fun q hq => by cases hq; exact h⟩
    | 9 => obtain ⟨c, i, h⟩ := u_known (C := RX9) (T := TX9) (N := 16) (n := 16) hts ix_X9 (hts _ st_i9); exact ⟨(c, i), fun q hq => by cases hq; exact h⟩
    | 10 => obtain ⟨c, i, h⟩ := u_known (C := RX10) (T := TX10) (N := 8) (n := 8) hts ix_X10 (hts _ st_i10); exact ⟨(c, i), fun q hq => by cases hq; exact h⟩
    | 11 => obtain ⟨c, i, h⟩ := u_known (C := RX11) (T := TX11) (N := 9) (n := 9) hts ix_X11 (hts _ st_i11); exact ⟨(c, i), fun q hq => by cases hq; exact h⟩
    | 12 => obtain ⟨c, i, h⟩ := u_known (C := RX12) (T := TX12) (N := 69) (n := 69) hts ix_X12 (hts _ st_i12); exact ⟨(c, i), fun q hq => by cases hq; exact h⟩
    | k + 13 => exact ⟨(0, fun _ => 0), fun q hq => by simp [vwCl] at hq⟩
  obtain ⟨f, hf⟩ := Classical.axiomOfChoice h0
  exact ⟨fun k => (f k).1, fun k => (f k).2, hf⟩
theorem st_a_int : Cond.arrayClass .int ∈ ah_TW := ah_m1 77 (by decide +kernel)
theorem st_a_long : Cond.arrayClass .long ∈ ah_TW := ah_m1 78 (by decide +kernel)
theorem st_a_byte : Cond.arrayClass .byte ∈ ah_TW := ah_m1 76 (by decide +kernel)
theorem st_a_boolean : Cond.arrayClass .boolean ∈ ah_TW := ah_m7 187 (by decide +kernel)
theorem st_oi : Cond.arrayOver (.array .int) ∈ lw_tbl := List.mem_append_right _ (List.mem_append_left _ (List.mem_of_getElem? (i := 42) (by decide +kernel)))
theorem st_ol : Cond.arrayOver (.array .long) ∈ lw_tbl := List.mem_append_right _ (List.mem_append_right _ (List.mem_append_left _ (List.mem_of_getElem? (i := 175) (by decide +kernel))))
theorem st_nest : Cond.methodLinkNest RX9 37 yX4_init RX11 ∈ lw_tbl := List.mem_append_right _ (List.mem_append_left _ (List.mem_of_getElem? (i := 45) (by decide +kernel)))
theorem st_t0 : Cond.stringRef (ah_tx 0).1 (ah_tx 0).2.1 (ah_tx 0).2.2 ∈ lw_tbl := List.mem_append_right _ (List.mem_append_left _ (List.mem_of_getElem? (i := 208) (by decide +kernel)))
theorem st_t1 : Cond.stringRef (ah_tx 1).1 (ah_tx 1).2.1 (ah_tx 1).2.2 ∈ lw_tbl := List.mem_append_right _ (List.mem_append_right _ (List.mem_append_left _ (List.mem_of_getElem? (i := 24) (by decide +kernel))))
theorem st_t2 : Cond.stringRef (ah_tx 2).1 (ah_tx 2).2.1 (ah_tx 2).2.2 ∈ lw_tbl := List.mem_append_right _ (List.mem_append_right _ (List.mem_append_right _ (List.mem_append_right _ (List.mem_append_right _ (List.mem_append_right _ (List.mem_append_right _ (List.mem_append_left _ (List.mem_of_getElem? (i := 219) (by decide +kernel)))))))))
theorem st_c1 : Cond.castable lk_1 lk_1 ∈ lw_tbl := List.mem_append_right _ (List.mem_append_right _ (List.mem_append_right _ (List.mem_append_right _ (List.mem_append_right _ (List.mem_append_right _ (List.mem_append_left _ (List.mem_of_getElem? (i := 138) (by decide +kernel))))))))
theorem st_c2 : Cond.castable lk_2 lk_2 ∈ lw_tbl := List.mem_append_right _ (List.mem_append_right _ (List.mem_append_right _ (List.mem_append_right _ (List.mem_append_right _ (List.mem_append_right _ (List.mem_append_left _ (List.mem_of_getElem? (i := 200) (by decide +kernel))))))))
theorem st_lk_d1 : lk_d1 ∈ lw_tbl := List.mem_append_right _ (List.mem_append_right _ (List.mem_append_right _ (List.mem_append_right _ (List.mem_append_right _ (List.mem_append_right _ (List.mem_append_left _ (List.mem_of_getElem? (i := 139) (by decide +kernel))))))))
theorem st_lk_d2 : lk_d2 ∈ lw_tbl := List.mem_append_right _ (List.mem_append_right _ (List.mem_append_right _ (List.mem_append_right _ (List.mem_append_right _ (List.mem_append_right _ (List.mem_append_left _ (List.mem_of_getElem? (i := 141) (by decide +kernel))))))))
theorem st_lk_d3 : lk_d3 ∈ lw_tbl := List.mem_append_right _ (List.mem_append_right _ (List.mem_append_right _ (List.mem_append_right _ (List.mem_append_right _ (List.mem_append_right _ (List.mem_append_left _ (List.mem_of_getElem? (i := 143) (by decide +kernel))))))))
theorem st_s1 : Cond.laysStatic "java/lang/String" "COMPACT_STRINGS" "Z" ∈ lw_tbl := List.mem_append_right _ (List.mem_append_left _ (List.mem_of_getElem? (i := 222) (by decide +kernel)))
theorem st_s2 : Cond.laysStatic "jdk/internal/util/Preconditions" "SIOOBE_FORMATTER" "Ljava/util/function/BiFunction;" ∈ lw_tbl := List.mem_append_right _ (List.mem_append_left _ (List.mem_of_getElem? (i := 238) (by decide +kernel)))
theorem st_s3 : Cond.laysStatic "java/lang/Throwable" "UNASSIGNED_STACK" "[Ljava/lang/StackTraceElement;" ∈ lw_tbl := List.mem_append_right _ (List.mem_append_right _ (List.mem_append_right _ (List.mem_append_right _ (List.mem_append_right _ (List.mem_append_right _ (List.mem_append_left _ (List.mem_of_getElem? (i := 163) (by decide +kernel))))))))
theorem st_s4 : Cond.laysStatic "java/lang/Throwable" "SUPPRESSED_SENTINEL" "Ljava/util/List;" ∈ lw_tbl := List.mem_append_right _ (List.mem_append_right _ (List.mem_append_right _ (List.mem_append_right _ (List.mem_append_right _ (List.mem_append_right _ (List.mem_append_left _ (List.mem_of_getElem? (i := 165) (by decide +kernel))))))))
theorem st_n1 : Cond.initialized "java/lang/String" ∈ lw_tbl := List.mem_append_right _ (List.mem_append_left _ (List.mem_of_getElem? (i := 7) (by decide +kernel)))
theorem st_n2 : Cond.initialized "jdk/internal/util/Preconditions" ∈ lw_tbl := List.mem_append_right _ (List.mem_append_left _ (List.mem_of_getElem? (i := 9) (by decide +kernel)))
theorem st_n3 : Cond.initialized "java/lang/Throwable" ∈ lw_tbl := List.mem_append_right _ (List.mem_append_left _ (List.mem_of_getElem? (i := 20) (by decide +kernel)))
def st_F : List Cond := flatC (Jvm.Cond.and given_1 narrow_1)
def st_tm (i : Nat) : Term := Term.string (ah_tx i).1 (ah_tx i).2.1
def st_b (i : Nat) : Nat := match i with
  | 0 => 39
  | 1 => 115
  | _ => 192
theorem st_ex : ∀ i, i < 3 → st_F[st_b i]? = some (Cond.exactly (st_tm i) "java/lang/String") := by decide +kernel
theorem st_co : ∀ i, i < 3 → st_F[st_b i + 1]? = some (Cond.eq (.field (st_tm i) "java/lang/String" "coder" "B") (.int 0)) := by decide +kernel
theorem st_ar : ∀ i, i < 3 → st_F[st_b i + 2]? = some (Cond.arrayOf (.field (st_tm i) "java/lang/String" "value" "[B") .byte) := by decide +kernel
theorem st_le : ∀ i, i < 3 → st_F[st_b i + 3]? = some (Cond.eq (.length (.field (st_tm i) "java/lang/String" "value" "[B")) (.int (Int32.ofNat (([72, 72, 124] : List Nat).getD i 0)))) := by decide +kernel
theorem st_el : ∀ i, i < 3 → ∀ j, j < ([72, 72, 124] : List Nat).getD i 0 → st_F[st_b i + 4 + j]? = some (Cond.eq (.elem (.field (st_tm i) "java/lang/String" "value" "[B") (.int (Int32.ofNat j))) (.int ((([ah_tb 0, ah_tb 1, ah_tb 2] : List (List Int32)).getD i []).getD j 0))) := by decide +kernel
theorem st_n01 : st_F[191]? = some (Cond.not (Cond.eq (st_tm 0) (st_tm 1))) := by decide +kernel
theorem st_n02 : st_F[320]? = some (Cond.not (Cond.eq (st_tm 0) (st_tm 2))) := by decide +kernel
theorem st_n12 : st_F[321]? = some (Cond.not (Cond.eq (st_tm 1) (st_tm 2))) := by decide +kernel
theorem st_f4 : st_F[4]? = some (Cond.eq (.static "java/lang/String" "COMPACT_STRINGS" "Z") (.int 1)) := by decide +kernel
theorem st_f5 : st_F[5]? = some (Cond.isRef (.static "jdk/internal/util/Preconditions" "SIOOBE_FORMATTER" "Ljava/util/function/BiFunction;")) := by decide +kernel
theorem st_f9 : st_F[9]? = some (Cond.isRef (.static "java/lang/Throwable" "UNASSIGNED_STACK" "[Ljava/lang/StackTraceElement;")) := by decide +kernel
theorem st_f10 : st_F[10]? = some (Cond.isRef (.static "java/lang/Throwable" "SUPPRESSED_SENTINEL" "Ljava/util/List;")) := by decide +kernel
theorem st_f24 : st_F[24]? = some (Cond.not (.castable lk_2 lk_1)) := by decide +kernel
/-- addresses that were there: the texts, their bytes, the formatter, the script -/
def st_ad (adK adV : Nat → Nat) (r : Option Nat) (b : Nat) : Nat → Nat := fun i => if i = 2000000 then b else if i = 1000020 then r.getD 0 else if i = 1000021 then (if r = none then 0 else 1) else if i < 1000010 then adK (i - 1000000) else adV (i - 1000010)
theorem st_K {l : Launch} {s : State} {b L : Nat} {xs : Nat → Int32} (hl : l.flags = flags0) (hts0 : ∀ w ∈ lw_tbl, w.before #[Value.ref b] s = true) (hX : va_X b L xs s s.heap) (hgv : (Jvm.Cond.and given_1 narrow_1).before #[Value.ref b] s = true) : ∃ G : ah_G, G.1 = l ∧ G.2.2.2.2 = s.heap ∧ ah_ex G ∧ G.2.2.2.1 2000000 = b ∧ ah_K G s := by
  have hts := st_tbl hts0
  have hs := flat_of_before _ hgv
  have hF : ∀ (i : Nat) (w : Cond), st_F[i]? = some w → w.before #[Value.ref b] s = true := fun i w h => hs w (List.mem_of_getElem? h)
  obtain ⟨dC, dI, hcl⟩ := st_cl hts
  have hA : ∀ a : Nat, a < s.heap.size → ¬ (fun q => s.heap.size ≤ q) a := fun a h => Nat.not_le.mpr h
  have hoi : ah_AOA .int s := hts0 _ st_oi
  have hol : ah_AOA .long s := hts0 _ st_ol
  have harr : ∀ ty : FieldType, ∃ cA : ClassId, ty ∈ ah_tl → ArrOfT s cA ty ∧ va_RA s cA ty := by
    intro ty
    by_cases hm : ty ∈ ah_tl
    · have prim : ∀ t : FieldType, Cond.arrayClass t ∈ ah_TW → ah_ref t = false → ∃ cA : ClassId, ArrOfT s cA t ∧ va_RA s cA t := by
        intro t hw hp
        obtain ⟨cA, kA, comp, h1, h2, h3⟩ := Cond.arrayClass_spec (hts _ hw)
        refine ⟨cA, fun n z => ⟨fun k h => (by cases h), kA, h2, comp, h3⟩, ?_⟩
        unfold va_RA
        split
        · next C => exact absurd hp (fun z => by cases z)
        · exact h1
      have two : ∀ t : FieldType, ah_AOA t s → ∃ cA : ClassId, ArrOfT s cA (.array t) ∧ va_RA s cA (.array t) := by
        intro t ht
        obtain ⟨comp, cA, kA, h1, h2, h3, h4, h5⟩ := ah_AOA_spec ht
        exact ⟨cA, fun n z => ⟨fun k h => (by cases h), kA, h3, comp, h4⟩, h5⟩
      simp only [ah_tl, List.mem_cons, List.not_mem_nil, or_false] at hm
      rcases hm with rfl | rfl | rfl | rfl | rfl | rfl
      · obtain ⟨cA, h⟩ := prim .int st_a_int rfl; exact ⟨cA, fun _ => h⟩
      · obtain ⟨cA, h⟩ := prim .long st_a_long rfl; exact ⟨cA, fun _ => h⟩
      · obtain ⟨cA, h⟩ := prim .byte st_a_byte rfl; exact ⟨cA, fun _ => h⟩
      · obtain ⟨cA, h⟩ := prim .boolean st_a_boolean rfl; exact ⟨cA, fun _ => h⟩
      · obtain ⟨cA, h⟩ := two .int hoi; exact ⟨cA, fun _ => h⟩
      · obtain ⟨cA, h⟩ := two .long hol; exact ⟨cA, fun _ => h⟩
    · exact ⟨0, fun h => absurd h hm⟩
  obtain ⟨aid, haid⟩ := Classical.axiomOfChoice harr
  obtain ⟨adK, adV, hvS, hev⟩ := vk_Sof (args := #[Value.ref b]) (s := s) (N := 3) (tm := st_tm) (len := [72, 72, 124]) (byt := [ah_tb 0, ah_tb 1, ah_tb 2]) (A := fun q => s.heap.size ≤ q) (by decide) (fun i hi => hF _ _ (st_ex i hi)) (fun i hi => hF _ _ (st_co i hi)) (fun i hi => hF _ _ (st_ar i hi)) (fun i hi => hF _ _ (st_le i hi)) (fun i hi j hj => hF _ _ (st_el i hi j hj)) (fun i j hi hj hne => by
    have e : (i = 0 ∨ i = 1 ∨ i = 2) ∧ (j = 0 ∨ j = 1 ∨ j = 2) := by omega
    rcases e with ⟨rfl | rfl | rfl, rfl | rfl | rfl⟩
    · exact absurd rfl hne
    · exact Or.inl (hF _ _ st_n01)
    · exact Or.inl (hF _ _ st_n02)
    · exact Or.inr (hF _ _ st_n01)
    · exact absurd rfl hne
    · exact Or.inl (hF _ _ st_n12)
    · exact Or.inr (hF _ _ st_n02)
    · exact Or.inr (hF _ _ st_n12)
    · exact absurd rfl hne) hA
  have hfm : ∃ r : Option Nat, va_Z "jdk/internal/util/Preconditions" "SIOOBE_FORMATTER" "Ljava/util/function/BiFunction;" (va_rf r) (fun q => s.heap.size ≤ q) s s.heap := by
    rcases va_Zqof (hts0 _ st_s2) (hts0 _ st_n2) (hF _ _ st_f5) hA with h | ⟨t, h⟩
    · exact ⟨none, h⟩
    · exact ⟨some t, h⟩
  obtain ⟨r, hr⟩ := hfm
  have hK1 : ∀ i, i < 3 → st_ad adK adV r b (1000000 + i) = adK i := by
    intro i hi
    unfold st_ad
    rw [if_neg (by omega), if_neg (by omega), if_neg (by omega), if_pos (by omega), show 1000000 + i - 1000000 = i by omega]
  have hV1 : ∀ i, i < 3 → st_ad adK adV r b (1000010 + i) = adV i := by
    intro i hi
    unfold st_ad
    rw [if_neg (by omega), if_neg (by omega), if_neg (by omega), if_neg (by omega), show 1000010 + i - 1000010 = i by omega]
  have hB : st_ad adK adV r b 2000000 = b := by
    unfold st_ad
    rw [if_pos rfl]
  have hfu : ∀ D : va_G, ∀ a : FieldType → ClassId, ah_up (l, D, a, st_ad adK adV r b, s.heap) (ah_fm (l, D, a, st_ad adK adV r b, s.heap)) = va_rf r := by
    intro D a
    have e21 : st_ad adK adV r b 1000021 = if r = none then 0 else 1 := by
      unfold st_ad
      rw [if_neg (by omega), if_neg (by omega), if_pos rfl]
    have e20 : st_ad adK adV r b 1000020 = r.getD 0 := by
      unfold st_ad
      rw [if_neg (by omega), if_pos rfl]
    unfold ah_fm
    show ah_up _ (if st_ad adK adV r b 1000021 = 0 then Value.null else .ref 1000020) = _
    rw [e21]
    cases r with
    | none => rfl
    | some t =>
      rw [if_neg (by simp)]
      show Value.ref (ah_rho _ _) = _
      rw [ah_rho_t _ _ (by omega)]
      show Value.ref (st_ad adK adV (some t) b 1000020) = _
      rw [e20]
      rfl
  obtain ⟨scr, x1, x2, x3, x4, x5⟩ := hX
  have hbl : b < s.heap.size := (Array.getElem?_eq_some_iff.mp x1).1
  refine ⟨(l, (fun k => if k = 99 then 1 else dC k, dI), aid, st_ad adK adV r b, s.heap), rfl, rfl, (show (if (99 : Nat) = 99 then 1 else dC 99) = 1 from if_pos rfl), hB, ⟨⟨fun k q hq => ?_, fun k q hq => ?_⟩, hoi, hol, fun i hi => ?_, ⟨fun i hi => ?_, fun i j hi hj e => ?_⟩, va_Zof (hts0 _ st_s1) (hts0 _ st_n1) (va_eqt (hF _ _ st_f4)) hA, ?_, vx_Zqof (hts0 _ st_s3) (hts0 _ st_n3) (hF _ _ st_f9) hA, vx_Zqof (hts0 _ st_s4) (hts0 _ st_n3) (hF _ _ st_f10) hA, ?_, va_Nw.of rfl (hts0 _ st_nest), ?_⟩⟩
  · have hne : ¬ k = 99 := fun e => by rw [e] at hq; simp [vwCl] at hq
    show u_Kn s q.1 q.2.1 q.2.2 (if k = 99 then 1 else dC k) (dI k)
    rw [if_neg hne]
    exact hcl k q hq
  · obtain ⟨t, ht, rfl⟩ : ∃ t, ah_tl[k]? = some t ∧ (aid t, t) = q := by
      have h9 : (ah_tl.map (fun t => (aid t, t)))[k]? = some q := hq
      rw [List.getElem?_map] at h9
      exact op_mp h9
    exact haid t (List.mem_of_getElem? ht)
  · refine vk_R.of (A := #[Value.ref b]) ?_ ?_
    · rcases (show i = 0 ∨ i = 1 ∨ i = 2 by omega) with rfl | rfl | rfl
      · exact hts0 _ st_t0
      · exact hts0 _ st_t1
      · exact hts0 _ st_t2
    · show (st_tm i).eval _ _ _ _ _ = some (.ref (st_ad adK adV r b (1000000 + i)))
      rw [hK1 i hi]
      exact hev i hi
  · have h9 := hvS.1 i hi
    rw [← hK1 i hi, ← hV1 i hi] at h9
    exact h9
  · have e1 : st_ad adK adV r b (1000000 + i) = st_ad adK adV r b (1000000 + j) := e
    rw [hK1 i hi, hK1 j hj] at e1
    exact hvS.2 i j hi hj e1
  · rw [hfu]
    exact hr
  · show (!l.flags.contains Jvm.noTraceFlag) = false
    rw [hl]
    decide
  · have hsc : s.heap[st_ad adK adV r b 2000000]? = some scr := by rw [hB]; exact x1
    refine ⟨scr, hsc, x2, x3, ?_, ?_, fun j hj => ?_, ?_⟩
    · show ah_sn _ ≤ _
      unfold ah_sn
      show (match s.heap[st_ad adK adV r b 2000000]? with | some ce => ce.slots.size | none => 0) ≤ _
      rw [hsc]
      exact Nat.le_refl _
    · unfold ah_sn
      show _ = Int32.ofNat (match s.heap[st_ad adK adV r b 2000000]? with | some ce => ce.slots.size | none => 0)
      rw [hsc]
    · have hj2 : j < L := by
        unfold ah_sn at hj
        have hj : j < (match s.heap[st_ad adK adV r b 2000000]? with | some ce => ce.slots.size | none => 0) := hj
        rw [hsc] at hj
        rw [← x4]
        exact hj
      rw [x5 j hj2]
      show some (Value.int (xs j)) = some (Value.int (ah_xs _ j))
      congr 2
      unfold ah_xs
      show _ = (match (s.heap[st_ad adK adV r b 2000000]?).bind (fun ce => ce.slots[j]?) with | some (.int x) => x | _ => 0)
      rw [hsc]
      show _ = (match scr.slots[j]? with | some (.int x) => x | _ => 0)
      rw [x5 j hj2]
    · show ¬ s.heap.size ≤ st_ad adK adV r b 2000000
      rw [hB]
      exact Nat.not_le.mpr hbl
theorem st_W {b : Nat} {s : State} (hts0 : ∀ w ∈ lw_tbl, w.before #[Value.ref b] s = true) (hgv : (Jvm.Cond.and given_1 narrow_1).before #[Value.ref b] s = true) : lk_W s :=
  ⟨va_Nw.of rfl (hts0 _ st_c1), va_Nw.of rfl (hts0 _ st_c2), va_Nc.of (flat_of_before _ hgv _ (List.mem_of_getElem? st_f24)), va_Nw.of rfl (hts0 _ st_lk_d1), va_Nw.of rfl (hts0 _ st_lk_d2), va_Nw.of rfl (hts0 _ st_lk_d3)⟩
