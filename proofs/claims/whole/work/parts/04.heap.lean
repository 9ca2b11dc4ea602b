/-! THE ABSTRACT HEAP: cells by number; of each what it is (an array of a type and length, an object of a class), its ints, longs and references by place. -/
abbrev ah_Sh : Type := (FieldType × Nat) ⊕ Nat
abbrev ah_H : Type := (Nat → Nat → Int32) × (Nat → Nat → Int64) × (Nat → Nat → Option Nat) × List ah_Sh
def ah_I (σ : ah_H) (a j : Nat) : Int32 := σ.1 a j
def ah_L (σ : ah_H) (a j : Nat) : Int64 := σ.2.1 a j
def ah_R (σ : ah_H) (a j : Nat) : Option Nat := σ.2.2.1 a j
def ah_S (σ : ah_H) : List ah_Sh := σ.2.2.2
def ah_wI (σ : ah_H) (a i : Nat) (x : Int32) : ah_H := (fun b j => if b = a ∧ j = i then x else σ.1 b j, σ.2)
def ah_wL (σ : ah_H) (a i : Nat) (x : Int64) : ah_H := (σ.1, fun b j => if b = a ∧ j = i then x else σ.2.1 b j, σ.2.2)
def ah_wR (σ : ah_H) (a i : Nat) (x : Option Nat) : ah_H := (σ.1, σ.2.1, fun b j => if b = a ∧ j = i then x else σ.2.2.1 b j, σ.2.2.2)
theorem ah_I_wI (σ : ah_H) (a i b j : Nat) (x : Int32) : ah_I (ah_wI σ a i x) b j = if b = a ∧ j = i then x else ah_I σ b j := rfl
theorem ah_L_wI (σ : ah_H) (a i b j : Nat) (x : Int32) : ah_L (ah_wI σ a i x) b j = ah_L σ b j := rfl
theorem ah_R_wI (σ : ah_H) (a i b j : Nat) (x : Int32) : ah_R (ah_wI σ a i x) b j = ah_R σ b j := rfl
theorem ah_S_wI (σ : ah_H) (a i : Nat) (x : Int32) : ah_S (ah_wI σ a i x) = ah_S σ := rfl
theorem ah_I_wL (σ : ah_H) (a i b j : Nat) (x : Int64) : ah_I (ah_wL σ a i x) b j = ah_I σ b j := rfl
theorem ah_L_wL (σ : ah_H) (a i b j : Nat) (x : Int64) : ah_L (ah_wL σ a i x) b j = if b = a ∧ j = i then x else ah_L σ b j := rfl
theorem ah_R_wL (σ : ah_H) (a i b j : Nat) (x : Int64) : ah_R (ah_wL σ a i x) b j = ah_R σ b j := rfl
theorem ah_S_wL (σ : ah_H) (a i : Nat) (x : Int64) : ah_S (ah_wL σ a i x) = ah_S σ := rfl
theorem ah_I_wR (σ : ah_H) (a i b j : Nat) (x : Option Nat) : ah_I (ah_wR σ a i x) b j = ah_I σ b j := rfl
theorem ah_L_wR (σ : ah_H) (a i b j : Nat) (x : Option Nat) : ah_L (ah_wR σ a i x) b j = ah_L σ b j := rfl
theorem ah_R_wR (σ : ah_H) (a i b j : Nat) (x : Option Nat) : ah_R (ah_wR σ a i x) b j = if b = a ∧ j = i then x else ah_R σ b j := rfl
theorem ah_S_wR (σ : ah_H) (a i : Nat) (x : Option Nat) : ah_S (ah_wR σ a i x) = ah_S σ := rfl
/-- the fixed things: the launch, class numbers and slots, array classes, where the text constants lie, the heap at the start -/
abbrev ah_G : Type := Launch × va_G × (FieldType → ClassId) × (Nat → Nat) × Heap
def ah_hb (G : ah_G) : Nat := G.2.2.2.2.size
def ah_rho (G : ah_G) (a : Nat) : Nat := if a < 1000000 then ah_hb G + a else G.2.2.2.1 a
def ah_up (G : ah_G) : Value → Value
  | .ref a => .ref (ah_rho G a)
  | v => v
def ah_uq (G : ah_G) (q : Nat × Value) : Nat × Value := (q.1, ah_up G q.2)
theorem ah_up_cat (G : ah_G) (v : Value) : (ah_up G v).category = v.category := by cases v <;> rfl
def ah_val (G : ah_G) (σ : ah_H) (a j : Nat) : FieldType → Value
  | .long => .long (ah_L σ a j)
  | .object _ => va_rf ((ah_R σ a j).map (ah_rho G))
  | .array _ => va_rf ((ah_R σ a j).map (ah_rho G))
  | _ => .int (ah_I σ a j)
def ah_at (G : ah_G) (σ : ah_H) (a : Nat) (H : Heap) : ah_Sh → Prop
  | .inl (ty, n) => H[ah_rho G a]? = some (arrV (G.2.2.1 ty) n (fun j => ah_val G σ a j ty))
  | .inr c => ∃ r : vw_C, vwCl[c]? = some r ∧ t_OB (ah_rho G a) (G.2.1.1 c) r.2.2 (G.2.1.2 c) H (fun j => ah_val G σ a j (ah_ty c j))
/-- nothing but the abstract cells has been made (as long as the constructors run) -/
def ah_ex (G : ah_G) : Prop := G.2.1.1 99 = 1
/-- the real heap holds the abstract one, behind the heap at the start, which is as it was -/
def ah_Rel (G : ah_G) (σ : ah_H) (H : Heap) : Prop := (ah_hb G + (ah_S σ).length ≤ H.size ∧ (ah_ex G → H.size = ah_hb G + (ah_S σ).length)) ∧ (ah_S σ).length ≤ 1000000 ∧ (∀ (a : Nat) (sh : ah_Sh), (ah_S σ)[a]? = some sh → ah_at G σ a H sh) ∧ ∀ q : Nat, q < ah_hb G → H[q]? = G.2.2.2.2[q]?
theorem ah_Rel.rho {G : ah_G} {σ : ah_H} {H : Heap} (h : ah_Rel G σ H) {a : Nat} {sh : ah_Sh} (ha : (ah_S σ)[a]? = some sh) : ah_rho G a = ah_hb G + a := by
  have h1 := (List.getElem?_eq_some_iff.mp ha).1
  have h2 := h.2.1
  unfold ah_rho
  rw [if_pos (by omega)]
theorem ah_at.kept {G : ah_G} {σ σ' : ah_H} {a : Nat} {H H' : Heap} {sh : ah_Sh} (h : ah_at G σ a H sh) (hv : ∀ j ty, ah_val G σ' a j ty = ah_val G σ a j ty) (hh : H'[ah_rho G a]? = H[ah_rho G a]?) : ah_at G σ' a H' sh := by
  cases sh with
  | inl x =>
    obtain ⟨ty, n⟩ := x
    have key : ∀ (h : H[ah_rho G a]? = some (arrV (G.2.2.1 ty) n (fun j => ah_val G σ a j ty))), H'[ah_rho G a]? = some (arrV (G.2.2.1 ty) n (fun j => ah_val G σ' a j ty)) := by
      intro h
      rw [hh]
      refine Eq.trans h ?_
      congr 2
      exact funext fun j => (hv j ty).symm
    cases ty <;> first | exact trivial | exact key h
  | inr c =>
    obtain ⟨r, h1, h2⟩ := h
    exact ⟨r, h1, (h2.kept hh).to (fun k _ => (hv k _).symm)⟩
/-- one cell has changed -/
theorem ah_Rel.set {G : ah_G} {σ σ' : ah_H} {H H' : Heap} {a : Nat} {sh : ah_Sh} (h : ah_Rel G σ H) (ha : (ah_S σ)[a]? = some sh) (hs : ah_S σ' = ah_S σ) (hz : H'.size = H.size) (ho : ∀ q, q ≠ ah_rho G a → H'[q]? = H[q]?) (hv : ∀ b, b ≠ a → ∀ j ty, ah_val G σ' b j ty = ah_val G σ b j ty) (hn : ah_at G σ' a H' sh) : ah_Rel G σ' H' := by
  have hra := h.rho ha
  refine ⟨by rw [hz, hs]; exact h.1, by rw [hs]; exact h.2.1, fun b sh' hb => ?_, fun q hq => ?_⟩
  · rw [hs] at hb
    by_cases e : b = a
    · subst e
      have := hb.symm.trans ha
      cases this
      exact hn
    · have hrb := h.rho hb
      exact (h.2.2.1 b sh' hb).kept (hv b e) (ho _ (by rw [hrb, hra]; omega))
  · rw [ho q (by rw [hra]; omega)]
    exact h.2.2.2 q hq
def ah_tl : List FieldType := [.int, .long, .byte, .boolean, .array .int, .array .long]
def ah_tys (G : ah_G) : List (ClassId × FieldType) := ah_tl.map (fun t => (G.2.2.1 t, t))
def ah_AOA (ty : FieldType) (U : State) : Prop := (Cond.arrayOver (.array ty)).before #[] U = true
theorem ah_AOA_spec {t : FieldType} {s : State} (h : ah_AOA t s) : ∃ comp c k, s.vm.findClass (FieldType.array t).toString = some comp ∧ (s.vm.classes.findIdx? fun x => match x.kind with | .array component _ => component == comp | _ => false) = some c ∧ s.vm.classes[c]? = some k ∧ k.kind = .array comp (.array t) ∧ s.vm.findClass ("[" ++ (FieldType.array t).toString) = some c := by
  unfold ah_AOA Cond.before at h
  simp only [Cond.holds, Cond.value, beq_iff_eq] at h
  cases hc : s.vm.findClass (FieldType.array t).toString with
  | none => simp [hc] at h
  | some comp =>
    simp only [hc, Option.bind_some, Option.bind_eq_some_iff, Option.map_eq_some_iff] at h
    obtain ⟨c, hi, k, hk, hb⟩ := h
    obtain ⟨hlt, hp, -⟩ := Array.findIdx?_eq_some_iff_getElem.mp hi
    have hkk : s.vm.classes[c] = k := (Array.getElem?_eq_some_iff.mp hk).2
    rw [hkk] at hp
    cases hkind : k.kind with
    | array component ty =>
      rw [hkind] at hb hp
      simp at hb hp
      exact ⟨comp, c, k, rfl, hi, hk, by rw [hkind, hp, hb.1], hb.2⟩
    | _ => rw [hkind] at hb; simp at hb
theorem ah_AOA.moved {t : FieldType} {u U : State} (hvm : u.vm.Alike U.vm) (h : ah_AOA t u) : ah_AOA t U := by
  obtain ⟨comp, c, k, h1, h2, h3, h4, h5⟩ := ah_AOA_spec h
  obtain ⟨k', hk', he⟩ := hvm.2.2 _ _ h3
  have hi : (U.vm.classes.findIdx? fun (x : Class) => match x.kind with | .array component _ => component == comp | _ => false) = some c := by
    have e1 := va_idx_bare U.vm comp
    have e2 := va_idx_bare u.vm comp
    first | rw [hvm.bare_eq] at e1 | rw [← hvm.bare_eq] at e1
    exact e1.symm.trans (e2.trans h2)
  have hkind : k'.kind = .array comp (.array t) := by rw [he]; exact h4
  have f1 : U.vm.findClass (FieldType.array t).toString = some comp := by rw [hvm.findClass]; exact h1
  have f2 : U.vm.findClass ("[" ++ (FieldType.array t).toString) = some c := by rw [hvm.findClass]; exact h5
  unfold ah_AOA Cond.before Cond.holds
  simp only [Cond.value]
  rw [f1, Option.bind_some]
  refine (congrArg (fun o : Option Nat => (o.bind (fun c => (U.vm.classes[c]?).map fun (k : Class) => match k.kind with | .array _ ty => decide (ty = FieldType.array t) && decide (U.vm.findClass ("[" ++ (FieldType.array t).toString) = some c) | _ => false) == some true)) hi).trans ?_
  simp [hk', hkind, f2]
def ah_A (G : ah_G) : Nat → Prop := fun q => ah_hb G ≤ q
/-- the text constants: class, place in its pool, text -/
def ah_tx (i : Nat) : String × Nat × String := match i with
  | 0 => (RX8, 28, "cornerriver streetpipe  falls cover rain  law   cart  rock  hours risk  ")
  | 1 => (RX8, 34, "carry dig   pump  wide  fall  deep  rocky lift  flow  or    and   not   ")
  | _ => (RX12, 195, "corner river street pipe falls cover rain law cart rock hours risk carry dig pump or and not wide fall deep rocky lift flow ")
def ah_tb (i : Nat) : List Int32 := ((ah_tx i).2.2.toList.map fun c => Int32.ofNat c.toNat)
def ah_tK (G : ah_G) (i : Nat) : Nat := G.2.2.2.1 (1000000 + i)
def ah_tV (G : ah_G) (i : Nat) : Nat := G.2.2.2.1 (1000010 + i)
/-- the JDK's formatter, which is handed on and never used -/
def ah_fm (G : ah_G) : Value := if G.2.2.2.1 1000021 = 0 then .null else .ref 1000020
/-- the script: its length and its ints, as they stand in the heap at the start -/
def ah_sn (G : ah_G) : Nat := match G.2.2.2.2[G.2.2.2.1 2000000]? with
  | some ce => ce.slots.size
  | none => 0
def ah_xs (G : ah_G) (j : Nat) : Int32 := match (G.2.2.2.2[G.2.2.2.1 2000000]?).bind (fun ce => ce.slots[j]?) with
  | some (.int x) => x
  | _ => 0
/-- what the machine holds of texts, rows of rows, and what Throwable's constructor reads -/
def ah_X (G : ah_G) (U : State) : Prop := ah_AOA .int U ∧ ah_AOA .long U ∧ (∀ i, i < 3 → vk_R (ah_tx i).1 (ah_tx i).2.1 (ah_tx i).2.2 (ah_tK G i) U) ∧
  vk_S 3 [72, 72, 124] [ah_tb 0, ah_tb 1, ah_tb 2] (ah_tK G) (ah_tV G) (ah_A G) U G.2.2.2.2 ∧ va_Z "java/lang/String" "COMPACT_STRINGS" "Z" (.int 1) (ah_A G) U G.2.2.2.2 ∧ va_Z "jdk/internal/util/Preconditions" "SIOOBE_FORMATTER" "Ljava/util/function/BiFunction;" (ah_up G (ah_fm G)) (ah_A G) U G.2.2.2.2 ∧
  vx_Zq Bundle.tN "UNASSIGNED_STACK" Bundle.steD (ah_A G) U G.2.2.2.2 ∧ vx_Zq Bundle.tN "SUPPRESSED_SENTINEL" Bundle.listD (ah_A G) U G.2.2.2.2 ∧ G.1.stackTraces = false ∧ va_Nw (.methodLinkNest RX9 37 yX4_init RX11) U ∧ va_T .int (G.2.2.2.1 2000000) (ah_sn G) (fun j => .int (ah_xs G j)) (ah_A G) U G.2.2.2.2
def ah_K (G : ah_G) (U : State) : Prop := va_K G.2.1 vwCl (ah_tys G) U ∧ ah_X G U
theorem ah_K.warm {G : ah_G} {u U : State} (hW : u.WarmedH U.vm) (h : ah_K G u) : ah_K G U := by
  obtain ⟨h0, h1, h2, h3, h4, h5, h6, h7, h8, h9, h10, h11⟩ := h
  have hv := hW.alike
  exact ⟨va_K.moved hv h0, h1.moved hv, h2.moved hv, fun i hi => (h3 i hi).warm hW, h4.moved hv, h5.moved hv, h6.moved hv, h7.moved hv, h8.moved hv, h9, va_Nw.warmM hW h10, h11.moved hv⟩
theorem ah_K.same {G : ah_G} {u U : State} (hv : U.vm = u.vm) (h : ah_K G u) : ah_K G U := by
  obtain ⟨h0, h1, h2, h3, h4, h5, h6, h7, h8, h9, h10, h11⟩ := h
  have ha : u.vm.Alike U.vm := by rw [hv]; exact Vm.Alike.refl _
  exact ⟨va_K.moved ha h0, h1.moved ha, h2.moved ha, fun i hi => (h3 i hi).same hv, h4.moved ha, h5.moved ha, h6.moved ha, h7.moved ha, h8.moved ha, h9, va_tabs rfl hv.symm h10, h11.moved ha⟩
theorem ah_K.arr {G : ah_G} {U : State} (h : ah_K G U) {ty : FieldType} (ht : ty ∈ ah_tl) : ArrOfT U (G.2.2.1 ty) ty := by
  obtain ⟨k, hk⟩ := List.getElem?_of_mem ht
  exact (h.1.2 k (G.2.2.1 ty, ty) (by simp [ah_tys, hk])).1
def ah_Cx (G : ah_G) (mi : ah_M) (dp : Nat) (p : Program) (R : Room) (s : State) (m : MethodId) (args : Array Value) (meth : Method) (c : Code) : Prop :=
  p.tables.exec = Jvm.exec ∧ c.code = mi.2.1 ∧ c.maxLocals = mi.2.2.1 ∧ s.vm.findClass mi.1.cls = some m.cls ∧ (∀ w ∈ ah_TW, w.before args s = true) ∧ (meth.locks = false ∧ ah_hb G ≤ s.heap.size ∧ ∀ q : Nat, q < ah_hb G → s.heap[q]? = G.2.2.2.2[q]?) ∧ meth.sig.returnType = mi.2.2.2 ∧ (mi.1.name = "<init>" → meth.name = "<init>") ∧ ah_K G s ∧ dp ≤ R.frames ∧ 60 * dp ≤ R.locals
def ah_Q (G : ah_G) (Q : Option Value → ah_H → Prop) : Array Value → State → Outcome → State → Prop := fun _ st oc t => ∃ (v : Option Value) (σ : ah_H), oc = .returned (v.map (ah_up G)) ∧ Q v σ ∧ ah_Rel G σ t.heap ∧ va_F (ah_A G) st t
/-- what a frame's walk is to reach -/
abbrev ah_Z : Type := List Frame → Array Value → State → Room → Code → State → Prop
/-- a normal return -/
def ah_N (G : ah_G) (Q : Option Value → ah_H → Prop) : ah_Z := fun below args s R _ => MQ below (ah_Q G Q) args s R.cells R.slots (ah_A G)
/-- THE JUDGEMENT: of method mi, at pc, with these locals, this stack and this heap, with room for dp calls, kc cells, ks slots: it returns, and Q -/
def AW (G : ah_G) (mi : ah_M) (dp kc ks pc : Nat) (lv : List (Nat × Value)) (st : List Value) (σ : ah_H) (Q : ah_Z) : Prop :=
  ∀ (p : Program) (e : Env) (R : Room) (s : State) (m : MethodId) (args : Array Value) (below : List Frame) (meth : Method) (c : Code) (H : Heap) (locs : List Loc) (cells slots : Nat) (ls : Array Slot),
    ah_Cx G mi dp p R s m args meth c → R.cells = cells + kc → R.slots = slots + ks → ah_Rel G σ H → va_S (ah_A G) s.heap H locs → lv_has ls mi.2.2.1 (lv.map (ah_uq G)) →
    W p G.1 e R s m args below meth c H locs cells slots (Q below args s R c) (F0 m pc ls (st.map (ah_up G)))
def ah_rm (dp kc ks : Nat) : Room := { frames := dp, cells := kc, slots := ks, locals := 60 * dp }
def ah_P (G : ah_G) (args : List Value) (σ : ah_H) : Array Value → State → Prop := va_Pc (args.map (ah_up G)) (fun U => ah_Rel G σ U.heap ∧ ah_K G U)
/-- a method called: it returns, and Q -/
def AM (G : ah_G) (mi : ah_M) (dp kc ks : Nat) (args : List Value) (σ : ah_H) (Q : Option Value → ah_H → Prop) : Prop :=
  ∀ rm : Room, dp ≤ rm.frames → 60 * dp ≤ rm.locals → rm.cells = kc → rm.slots = ks → Met G.1 mi.1 (ah_ws mi) rm (ah_P G args σ) (ah_Q G Q) kc ks (ah_A G)
theorem AM.mono {G : ah_G} {mi : ah_M} {dp dq kc ks : Nat} {args : List Value} {σ : ah_H} {Q : Option Value → ah_H → Prop} (h : AM G mi dp kc ks args σ Q) (hd : dp ≤ dq) : AM G mi dq kc ks args σ Q := fun rm h1 h2 h3 h4 => h rm (Nat.le_trans hd h1) (Nat.le_trans (Nat.mul_le_mul_left 60 hd) h2) h3 h4
theorem ah_sl_up (G : ah_G) (vs : List Value) : (lg_sl (vs.map (ah_up G))).length = (lg_sl vs).length := by
  induction vs with
  | nil => rfl
  | cons v vs ih =>
    simp only [lg_sl, List.map_cons, List.flatMap_cons, List.length_append, ah_up_cat] at ih ⊢
    rw [ih]
    split <;> rfl
theorem ah_args_up (G : ah_G) (vs : List Value) : ∀ i, lv_args i (vs.map (ah_up G)) = (lv_args i vs).map (ah_uq G) := by
  induction vs with
  | nil => intro i; rfl
  | cons v vs ih =>
    intro i
    simp only [List.map_cons, lv_args, ah_up_cat, ih]
    rfl
theorem aw_enter {G : ah_G} {mi : ah_M} {dp kc ks : Nat} {as : List Value} {σ : ah_H} {Q : Option Value → ah_H → Prop} (hy : plainName mi.1.cls = true) (hlen : (lg_sl as).length ≤ mi.2.2.1) (h : AW G mi dp kc ks 0 (lv_args 0 as) [] σ (ah_N G Q)) : AM G mi dp kc ks as σ Q := by
  intro rm hf ho hk1 hk2
  refine Met.ofW (cc := mi.2.1) (maxL := mi.2.2.1) (ret := mi.2.2.2) hy rfl ?_
  intro p e s m args below meth c s₁ B hml hv
  obtain ⟨rfl, hR, hK⟩ := hv
  have hts := atoms_spec (ws := ah_ws mi) B.pre
  have hown : s.vm.findClass mi.1.cls = some m.cls := findClass_of_methodNamed B.named
  rw [lg_entry_eq]
  have hl := lv_entry (as.map (ah_up G)) (n := mi.2.2.1) (by rw [ah_sl_up]; exact hlen)
  rw [ah_args_up] at hl
  have hh := h p e (headSpec (ah_ws mi) rm).room s m _ below meth c s.heap [] 0 0 _ ⟨B.exec, B.bytes, hml, hown, fun w hw => hts w (List.mem_cons_of_mem _ hw), ⟨B.notSynchronized, Nat.le_trans (Nat.le_add_right _ _) hR.1.1, hR.2.2.2⟩, B.returns, fun hi => (name_of_methodNamed B.named B.method).1.trans hi, hK, hf, ho⟩ (by rw [Nat.zero_add]; exact hk1) (by rw [Nat.zero_add]; exact hk2) hR va_S.rf hl
  unfold ah_N at hh
  rw [show (headSpec (ah_ws mi) rm).room.cells = kc from hk1, show (headSpec (ah_ws mi) rm).room.slots = ks from hk2] at hh
  exact hh
