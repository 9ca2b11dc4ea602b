/-! THE WORDS THAT EVERY METHOD HAS, and what an instruction needs of them -/
/-- the words that every method has -/
def ah_TW : List Cond := lw_tbl.filter goodWord
theorem ah_mem {w : Cond} (i : Nat) (h : (decide (lw_tbl[i]? = some w) && goodWord w) = true) : w ∈ ah_TW := by
  rw [Bool.and_eq_true, decide_eq_true_eq] at h
  exact List.mem_filter.mpr ⟨List.mem_of_getElem? h.1, h.2⟩
theorem ah_mems {ws : List Cond} (ps : List Nat) (h : ((ws.zip ps).all (fun q => decide (lw_tbl[q.2]? = some q.1) && goodWord q.1) && Nat.ble ws.length ps.length) = true) : ∀ w ∈ ws, w ∈ ah_TW := by
  rw [Bool.and_eq_true] at h
  obtain ⟨h1, h2⟩ := h
  have h2 := Nat.le_of_ble_eq_true h2
  intro w hw
  obtain ⟨k, hk⟩ := List.getElem?_of_mem hw
  have hlt := (List.getElem?_eq_some_iff.mp hk).1
  have hz : (ws.zip ps)[k]? = some (w, ps[k]'(by omega)) := by
    rw [List.getElem?_zip_eq_some]
    exact ⟨hk, List.getElem?_eq_getElem _⟩
  exact ah_mem _ (List.all_eq_true.mp h1 _ (List.mem_of_getElem? hz))
theorem ah_in {w : Cond} {l : List Cond} (i : Nat) (hl : ∀ w ∈ l, w ∈ lw_tbl) (h : (decide (l[i]? = some w) && goodWord w) = true) : w ∈ ah_TW := by
  rw [Bool.and_eq_true, decide_eq_true_eq] at h
  exact List.mem_filter.mpr ⟨hl _ (List.mem_of_getElem? h.1), h.2⟩
theorem ah_m0 {w : Cond} (i : Nat) (h : (decide ((k2_sels lw_privs)[i]? = some w) && goodWord w) = true) : w ∈ ah_TW := ah_in i (fun _ h => List.mem_append_left _ h) h
theorem ah_m1 {w : Cond} (i : Nat) (h : (decide (tables_1_1[i]? = some w) && goodWord w) = true) : w ∈ ah_TW := ah_in i (fun _ h => List.mem_append_right _ (List.mem_append_left _ h)) h
theorem ah_m2 {w : Cond} (i : Nat) (h : (decide (tables_1_2[i]? = some w) && goodWord w) = true) : w ∈ ah_TW := ah_in i (fun _ h => List.mem_append_right _ (List.mem_append_right _ (List.mem_append_left _ h))) h
theorem ah_m3 {w : Cond} (i : Nat) (h : (decide (tables_1_3[i]? = some w) && goodWord w) = true) : w ∈ ah_TW := ah_in i (fun _ h => List.mem_append_right _ (List.mem_append_right _ (List.mem_append_right _ (List.mem_append_left _ h)))) h
theorem ah_m4 {w : Cond} (i : Nat) (h : (decide (tables_1_4[i]? = some w) && goodWord w) = true) : w ∈ ah_TW := ah_in i (fun _ h => List.mem_append_right _ (List.mem_append_right _ (List.mem_append_right _ (List.mem_append_right _ (List.mem_append_left _ h))))) h
theorem ah_m5 {w : Cond} (i : Nat) (h : (decide (tables_1_5[i]? = some w) && goodWord w) = true) : w ∈ ah_TW := ah_in i (fun _ h => List.mem_append_right _ (List.mem_append_right _ (List.mem_append_right _ (List.mem_append_right _ (List.mem_append_right _ (List.mem_append_left _ h)))))) h
theorem ah_m6 {w : Cond} (i : Nat) (h : (decide (tables_1_6[i]? = some w) && goodWord w) = true) : w ∈ ah_TW := ah_in i (fun _ h => List.mem_append_right _ (List.mem_append_right _ (List.mem_append_right _ (List.mem_append_right _ (List.mem_append_right _ (List.mem_append_right _ (List.mem_append_left _ h))))))) h
theorem ah_m7 {w : Cond} (i : Nat) (h : (decide (tables_1_7[i]? = some w) && goodWord w) = true) : w ∈ ah_TW := ah_in i (fun _ h => List.mem_append_right _ (List.mem_append_right _ (List.mem_append_right _ (List.mem_append_right _ (List.mem_append_right _ (List.mem_append_right _ (List.mem_append_right _ (List.mem_append_left _ h)))))))) h
theorem ah_m8 {w : Cond} (i : Nat) (h : (decide (tables_1_8[i]? = some w) && goodWord w) = true) : w ∈ ah_TW := ah_in i (fun _ h => List.mem_append_right _ (List.mem_append_right _ (List.mem_append_right _ (List.mem_append_right _ (List.mem_append_right _ (List.mem_append_right _ (List.mem_append_right _ (List.mem_append_right _ (List.mem_append_left _ h))))))))) h
theorem ah_m9 {w : Cond} (i : Nat) (h : (decide (tables_1_9[i]? = some w) && goodWord w) = true) : w ∈ ah_TW := ah_in i (fun _ h => List.mem_append_right _ (List.mem_append_right _ (List.mem_append_right _ (List.mem_append_right _ (List.mem_append_right _ (List.mem_append_right _ (List.mem_append_right _ (List.mem_append_right _ (List.mem_append_right _ (List.mem_append_left _ h)))))))))) h
theorem ah_m10 {w : Cond} (i : Nat) (h : (decide (tables_1_10[i]? = some w) && goodWord w) = true) : w ∈ ah_TW := ah_in i (fun _ h => List.mem_append_right _ (List.mem_append_right _ (List.mem_append_right _ (List.mem_append_right _ (List.mem_append_right _ (List.mem_append_right _ (List.mem_append_right _ (List.mem_append_right _ (List.mem_append_right _ (List.mem_append_right _ (h))))))))))) h
theorem ah_good : GoodIn ah_TW ah_TW := fun w hw => ⟨hw, good_of_word (List.mem_filter.mp hw).2⟩
/-- methods: name, code, locals, what it returns -/
abbrev ah_M : Type := MethodName × ByteArray × Nat × Option FieldType
def ah_ws (mi : ah_M) : List Cond := .code mi.1 mi.2.1 mi.2.2.1 mi.2.2.2 :: ah_TW
def ah_ty (c : Nat) : Nat → FieldType := match c with
  | 0 => tyX0 | 1 => tyX1 | 2 => tyX2 | 3 => tyX3 | 4 => tyX4 | 5 => tyX5 | 6 => tyX6 | 7 => tyX7 | 8 => tyX8 | 9 => tyX9 | 10 => tyX10 | 11 => tyX11 | _ => tyX12
/-- a field as an instruction of 'own' links it: pool index, class number, place, type, final -/
def ah_Fd (own : String) (idx ci j : Nat) (ty : FieldType) (fl : Bool) : Prop :=
  ∃ (C : String) (T : u_T) (N : Nat), vwCl[ci]? = some (C, T, N) ∧ j < N ∧ (∀ w ∈ u_ws C T N, w ∈ ah_TW) ∧ Cond.fieldLink own idx (T j).1 (T j).2.1 (T j).2.2.1 ∈ ah_TW ∧ ah_ty ci j = ty ∧ (∀ k, k < N → parseFieldDescriptor (T k).2.2.1 = some (ah_ty ci k)) ∧ (∀ a, a < N → ∀ b, b < N → a ≠ b → (T a).2.1 ≠ (T b).2.1) ∧ (T j).2.2.2 = fl ∧ (T j).1 = C
def ah_Cb (own : String) (idx : Nat) (mi' : ah_M) (n : Nat) : Prop :=
  Cond.methodLink own idx mi'.1 ∈ ah_TW ∧ Cond.initialized mi'.1.cls ∈ ah_TW ∧ Cond.code mi'.1 mi'.2.1 mi'.2.2.1 mi'.2.2.2 ∈ ah_TW ∧ (mi'.1.cls ≠ "java/lang/invoke/MethodHandle" ∧ mi'.1.cls ≠ "java/lang/invoke/VarHandle") ∧ (parseMethodDescriptor mi'.1.desc).map (fun d => d.parameters.length) = some n ∧ mi'.2.2.1 ≤ 41
def ah_Cv (own : String) (idx ci : Nat) (mi' : ah_M) (n : Nat) : Prop :=
  ah_Cb own idx mi' n ∧ Cond.instanceMethod mi'.1 ∈ ah_TW ∧ ∃ (C : String) (T : u_T) (N : Nat), vwCl[ci]? = some (C, T, N) ∧ Cond.selects C mi'.1 mi'.1 ∈ ah_TW
def ah_Cs (own : String) (idx : Nat) (mi' : ah_M) (n : Nat) : Prop := ah_Cb own idx mi' n ∧ Cond.static mi'.1 ∈ ah_TW
def ah_Ci (own : String) (idx : Nat) (mi' : ah_M) (n : Nat) : Prop := ah_Cb own idx mi' n ∧ Cond.instanceMethod mi'.1 ∈ ah_TW ∧ mi'.1.name = "<init>" ∧ mi'.2.2.2 = none
def ah_Cp (own : String) (idx : Nat) : Prop := Cond.methodLink own idx arraycopyName ∈ ah_TW ∧ Cond.native arraycopyName ∈ ah_TW ∧ Cond.static arraycopyName ∈ ah_TW ∧ Cond.initialized "java/lang/System" ∈ ah_TW
def ah_Mt (own : String) (idx : Nat) (y : MethodName) (cc : ByteArray) (n : Nat) (ret : Option FieldType) : Prop := Cond.methodLink own idx y ∈ ah_TW ∧ Cond.static y ∈ ah_TW ∧ Cond.initialized "java/lang/Math" ∈ ah_TW ∧ Cond.code y cc n ret ∈ ah_TW
/-- an object is made: class link, class number, fields -/
def ah_Nw (own : String) (idx ci N : Nat) : Prop := ∃ (C : String) (T : u_T), vwCl[ci]? = some (C, T, N) ∧ Cond.classLink own idx C ∈ ah_TW ∧ Cond.instantiable C N ∈ ah_TW ∧ Cond.initialized C ∈ ah_TW ∧ (∀ w ∈ u_ws C T N, w ∈ ah_TW) ∧ (∀ k, k < N → parseFieldDescriptor (T k).2.2.1 = some (ah_ty ci k))
/-- rows of rows are made -/
def ah_Nm (own : String) (idx : Nat) (ty : FieldType) : Prop := Cond.classLink own idx ("[" ++ (FieldType.array ty).toString) ∈ ah_TW ∧ Cond.arrayClass ty ∈ ah_TW
def ah_Oi (own : String) (idx : Nat) : Prop := Cond.methodLink own idx objectInit ∈ ah_TW ∧ Cond.instanceMethod objectInit ∈ ah_TW ∧ Cond.code objectInit ⟨#[0xb1]⟩ 1 none ∈ ah_TW
