/-! THE LAW FROM ITS ENTRY, out of the pure function f_law -/
def law_e : ah_H := (fun _ _ => 0, fun _ _ => 0, fun _ _ => none, [])
/-- the law, whole: both objects are made, then its loop -/
def f_law (N : Nat) (xs : Nat → Int32) : Option (Int32 × ah_H) := (op_nwO 11 law_e).bind fun r1 => (f_X11_init r1.1 r1.2).bind fun σ1 => (op_nwO 12 σ1).bind fun r2 => (f_X12_init r2.1 r2.2).bind fun σ2 => (op_nwA .long 1 σ2).bind fun r3 => f_L_law_23 N xs 5000 2000000 r1.1 r2.1 r3.1 0 r3.2
def law_Z (hb : Nat) : ah_Z := fun below args s R _ t => lk_W s → MQ below (fun _ _ oc _ => oc = .returned (some (.int 1))) args s R.cells R.slots (fun q => hb ≤ q) t
/-- the fixed things, once cells may be made that nobody counts -/
def st_2 (G : ah_G) : ah_G := (G.1, (fun k => if k = 99 then 0 else G.2.1.1 k, G.2.1.2), G.2.2.1, G.2.2.2.1, G.2.2.2.2)
theorem st_2_ne (G : ah_G) : ¬ ah_ex (st_2 G) := by
  show ¬ (if (99 : Nat) = 99 then (0 : Nat) else G.2.1.1 99) = 1
  rw [if_pos rfl]
  decide
theorem st_2_up (G : ah_G) : ah_up (st_2 G) = ah_up G := funext fun v => by cases v <;> rfl
theorem st_2_uq (G : ah_G) : ah_uq (st_2 G) = ah_uq G := funext fun q => by
  show (q.1, ah_up (st_2 G) q.2) = (q.1, ah_up G q.2)
  rw [st_2_up]
theorem st_2_val (G : ah_G) (σ : ah_H) (a j : Nat) (ty : FieldType) : ah_val (st_2 G) σ a j ty = ah_val G σ a j ty := by cases ty <;> rfl
theorem st_cl99 {c : Nat} {q : vw_C} (h : vwCl[c]? = some q) : ¬ c = 99 := fun e => by rw [e] at h; simp [vwCl] at h
theorem st_2_Rel {G : ah_G} {σ : ah_H} {H : Heap} (h : ah_Rel G σ H) : ah_Rel (st_2 G) σ H := by
  refine ⟨⟨h.1.1, fun z => absurd z (st_2_ne G)⟩, h.2.1, fun a sh ha => ?_, h.2.2.2⟩
  have h1 := h.2.2.1 a sh ha
  cases sh with
  | inl x =>
    obtain ⟨ty, n⟩ := x
    show H[ah_rho (st_2 G) a]? = some (arrV ((st_2 G).2.2.1 ty) n (fun j => ah_val (st_2 G) σ a j ty))
    rw [show (fun j => ah_val (st_2 G) σ a j ty) = (fun j => ah_val G σ a j ty) from funext fun j => st_2_val G σ a j ty]
    exact h1
  | inr c =>
    obtain ⟨r, h2, h3⟩ := h1
    refine ⟨r, h2, ?_⟩
    show t_OB (ah_rho G a) (if c = 99 then 0 else G.2.1.1 c) r.2.2 (G.2.1.2 c) H (fun j => ah_val (st_2 G) σ a j (ah_ty c j))
    rw [if_neg (st_cl99 h2), show (fun j => ah_val (st_2 G) σ a j (ah_ty c j)) = (fun j => ah_val G σ a j (ah_ty c j)) from funext fun j => st_2_val G σ a j _]
    exact h3
theorem st_2_K {G : ah_G} {s : State} (h : ah_K G s) : ah_K (st_2 G) s := by
  refine ⟨⟨fun c q hq => ?_, h.1.2⟩, ?_⟩
  · show u_Kn s q.1 q.2.1 q.2.2 (if c = 99 then 0 else G.2.1.1 c) (G.2.1.2 c)
    rw [if_neg (st_cl99 hq)]
    exact h.1.1 c q hq
  · obtain ⟨h1, h2, h3, h4, h5, h6, h7⟩ := h.2
    refine ⟨h1, h2, h3, h4, h5, ?_, h7⟩
    have e : ah_up (st_2 G) (ah_fm (st_2 G)) = ah_up G (ah_fm G) := by rw [st_2_up]; rfl
    rw [e]
    exact h6
section
variable {G : ah_G} {mi : ah_M} {dp kc ks pc : Nat} {lv : List (Nat × Value)} {st : List Value} {σ : ah_H}
theorem sw_G (k : AW (st_2 G) mi dp kc ks pc lv st σ (law_Z (ah_hb G))) : AW G mi dp kc ks pc lv st σ (law_Z (ah_hb G)) := by
  intro p e R s m args below meth c H locs cells slots ls hC u1 u2 hR hS hl
  have h := k p e R s m args below meth c H locs cells slots ls ⟨hC.1, hC.2.1, hC.2.2.1, hC.2.2.2.1, hC.2.2.2.2.1, hC.2.2.2.2.2.1, hC.2.2.2.2.2.2.1, hC.2.2.2.2.2.2.2.1, st_2_K hC.2.2.2.2.2.2.2.2.1, hC.2.2.2.2.2.2.2.2.2⟩ u1 u2 (st_2_Rel hR) hS (by rw [st_2_uq]; exact hl)
  rw [st_2_up] at h
  exact h
theorem sw_post {r : Int32 × ah_H} (h1 : r.1 = 1) (k : AW G mi dp kc ks pc lv st σ (ah_NL G (ah_ri r))) : AW G mi dp kc ks pc lv st σ (law_Z (ah_hb G)) := by
  intro p e R s m args below meth c H locs cells slots ls hC u1 u2 hR hS hl T hT X
  obtain ⟨t, a1, b1⟩ := k p e R s m args below meth c H locs cells slots ls hC u1 u2 hR hS hl T hT X
  refine ⟨t, a1, fun hW => ?_⟩
  obtain ⟨o, c1, c2, ⟨v, τ, c3, ⟨c4, -⟩, -⟩, c5⟩ := b1 hW
  refine ⟨o, c1, c2, ?_, c5⟩
  show o = _
  rw [c3, c4, h1]
  rfl
end
set_option maxRecDepth 100000 in
set_option maxHeartbeats 4000000 in
theorem law_entry {G : ah_G} (hex : ah_ex G) (N : Nat) (xs : Nat → Int32) (hN : ah_sn G = N) (hx : ah_xs G = xs) (r : Int32 × ah_H) (h : f_law N xs = some r) (h1 : r.1 = 1) : AW G m_L_law 210 5272 48347 0 [(0, .ref 2000000)] [] law_e (law_Z (ah_hb G)) := by
  obtain ⟨r1, e, h⟩ := op_bd h
  refine ow_nwO hex (pc := 0) (kc := 5271) (ks := 48338) (N := 9) e dL_law_0 nw_L_8 ?_
  refine aw_dup (pc := 3) dL_law_3 rfl ?_
  obtain ⟨σ1, e, h⟩ := op_bd h
  refine ow_cI (pc := 4) (ka := 224) (kb := 14226) (kc := 5047) (ks := 34112) [] ((c_X11_init hex _ _ _ e).mono (by decide)) rfl dL_law_4 ci_L_17 rfl (Nat.le_of_ble_eq_true rfl) ?_
  refine aw_astore_n (pc := 7) [(1, .ref r1.1), (0, .ref 2000000)] dL_law_7 rfl (by decide) rfl ?_
  obtain ⟨r2, e, h⟩ := op_bd h
  refine ow_nwO hex (pc := 8) (kc := 5046) (ks := 34043) (N := 69) e dL_law_8 nw_L_18 ?_
  refine aw_dup (pc := 11) dL_law_11 rfl ?_
  obtain ⟨σ2, e, h⟩ := op_bd h
  refine ow_cI (pc := 12) (ka := 45) (kb := 4042) (kc := 5001) (ks := 30001) [] ((c_X12_init hex _ _ _ e).mono (by decide)) rfl dL_law_12 ci_L_20 rfl (Nat.le_of_ble_eq_true rfl) ?_
  refine aw_astore_n (pc := 15) [(2, .ref r2.1), (1, .ref r1.1), (0, .ref 2000000)] dL_law_15 rfl (by decide) rfl ?_
  refine aw_iconst (pc := 16) (v := (1 : Int32)) dL_law_16 (by decide) ?_
  obtain ⟨r3, e, h⟩ := op_bd h
  refine ow_nwA hex (pc := 17) (kc := 5000) (ks := 30000) (N := 1) e dL_law_17 rfl (by decide) (by decide) (by decide) ac_long (by decide) ⟨rfl, rfl⟩ ?_
  refine aw_astore_n (pc := 19) [(3, .ref r3.1), (2, .ref r2.1), (1, .ref r1.1), (0, .ref 2000000)] dL_law_19 rfl (by decide) rfl ?_
  refine aw_iconst (pc := 20) (v := (0 : Int32)) dL_law_20 (by decide) ?_
  refine aw_istore (pc := 21) [(4, .int 0), (3, .ref r3.1), (2, .ref r2.1), (1, .ref r1.1), (0, .ref 2000000)] dL_law_21 (by decide) rfl ?_
  refine aw_sub [4, 3, 2, 1, 0] rfl ?_
  refine sw_G ?_
  exact sw_post h1 (c_L_law_23 (G := st_2 G) N xs hN hx (st_2_ne G) 5000 _ _ _ _ _ _ _ h)
/-- THE LAW, from its entry, if the pure law answers 1 on the script -/
theorem law_start {p : Program} {e : Env} {s : State} {m : MethodId} {below : List Frame} {meth : Method} {c : Code} (l : Launch) (hl : l.flags = flags0) {b L : Nat} {xs : Nat → Int32} (C0 : lw_At p s m meth c b L xs) (hpure : ∀ ys : Nat → Int32, ∃ τ, f_law L ys = some (1, τ)) : W p l e room_1 s m #[Value.ref b] below meth c s.heap [] 0 0 (lw_Z below #[Value.ref b] s) (entryFrame m ([Value.ref b] : List Value).toArray 7) := by
  obtain ⟨hx, hb, hr, hml, hown, hts, hX, hbl, hlocks, hgv⟩ := C0
  obtain ⟨G, rfl, hH, hex, hB, hK⟩ := st_K hl hts hX hgv
  have hW := st_W hts hgv
  obtain ⟨scr, x1, x2, x3, x4, x5⟩ := hX
  have hsn : ah_sn G = L := by
    unfold ah_sn
    rw [hB, hH, x1]
    exact x4
  obtain ⟨τ, hτ⟩ := hpure (ah_xs G)
  have hl2 := lv_entry ([.ref 2000000].map (ah_up G)) (n := 7) (by rw [ah_sl_up]; exact Nat.le_of_ble_eq_true rfl)
  rw [ah_args_up] at hl2
  have hargs : ([.ref 2000000].map (ah_up G) : List Value) = [Value.ref b] := by
    show [Value.ref (ah_rho G _)] = _
    rw [ah_rho_t G _ (by omega), hB]
  have hRel : ah_Rel G law_e s.heap := ⟨⟨by show ah_hb G + 0 ≤ _; unfold ah_hb; rw [hH]; exact Nat.le_refl _, fun _ => by show _ = ah_hb G + 0; unfold ah_hb; rw [hH]; rfl⟩, Nat.zero_le _, fun a sh h => by simp [law_e, ah_S] at h, fun q _ => by rw [hH]⟩
  have key := law_entry hex L (ah_xs G) hsn rfl (1, τ) hτ rfl p e room_1 s m #[Value.ref b] below meth c s.heap [] (600128 - 5272) (7301098 - 48347) _ ⟨hx, hb, hml, hown, st_tbl hts, ⟨hlocks, by unfold ah_hb; rw [hH]; exact Nat.le_refl _, fun q _ => by rw [hH]⟩, hr, fun z => absurd z (by decide), hK, by decide, by decide⟩ (by decide) (by decide) hRel va_S.rf hl2
  rw [hargs] at key
  rw [lg_entry_eq]
  refine W.widen (k := 600128 - 5272) (n := 7301098 - 48347) (Nat.zero_le _) (Nat.zero_le _) ?_
  intro T hT X
  obtain ⟨t, a1, b1⟩ := key T hT X
  obtain ⟨o, c1, c2, c3, Ls, ⟨c4, c5, c6⟩, c7⟩ := b1 hW
  have c3 : o = .returned (some (.int 1)) := c3
  refine ⟨t, a1, o, c1, c2, c3, c4, c5, ?_⟩
  obtain ⟨d1, d2, d3, d4, d5, d6⟩ := c6
  refine ⟨d1, d2, d3, d4, d5, fun a cc hc => ?_⟩
  obtain ⟨c', f1, f2, f3, f4⟩ := d6 a cc hc
  refine ⟨c', f1, f2, f3, fun i _ => f4 i (fun hmem => ?_)⟩
  have h9 : ah_hb G ≤ a := c7 _ hmem
  have h8 : a < s.heap.size := (Array.getElem?_eq_some_iff.mp hc).1
  unfold ah_hb at h9
  rw [hH] at h9
  exact absurd h8 (Nat.not_lt.mpr h9)
