-- a constructor, or what it calls
set_option maxHeartbeats 4000000 in
set_option maxRecDepth 100000 in
theorem c_M_init (l : Launch) (dC : Nat → ClassId) (dI : Nat → Nat → Nat) (h0 : Nat) (x : Int32) (sz : Nat)  : Met l yX2_init wsX2_init ({ frames := 1, cells := 5, slots := 517, locals := 24 }) (va_Pc [.ref h0, .int x] (fun U => U.heap.size = sz ∧ va_P (dC, dI) vwCl [(h0, .inr (2, [.int 0, .null, .null, .null, .null, .null, .int 0, .int 0, .int 0, .int 0]))] U.heap ∧ va_K (dC, dI) vwCl [] U ∧ va_D (fun _ => True) [(h0, .inr (2, [.int 0, .null, .null, .null, .null, .null, .int 0, .int 0, .int 0, .int 0]))])) (va_Qv (fun (_ : (Nat → Nat) × (Nat → ClassId)) => True) (fun (u : (Nat → Nat) × (Nat → ClassId)) (t9 : State) => u.1 0 = h0 ∧ va_P (dC, dI) vwCl (cm u.1 u.2 (ap_r x + 1) (fun _ => 0) (fun _ => 0) (fun _ => 0) (fun _ => 0) (fun _ => 0) 0 0 0 0) t9.heap ∧ va_K (dC, dI) vwCl (km u.2) t9 ∧ va_D (va_A [(h0, .inr (2, [.int 0, .null, .null, .null, .null, .null, .int 0, .int 0, .int 0, .int 0]))] sz) (cm u.1 u.2 (ap_r x + 1) (fun _ => 0) (fun _ => 0) (fun _ => 0) (fun _ => 0) (fun _ => 0) 0 0 0 0)) (va_A [(h0, .inr (2, [.int 0, .null, .null, .null, .null, .null, .int 0, .int 0, .int 0, .int 0]))] sz)) 5 517 (va_A [(h0, .inr (2, [.int 0, .null, .null, .null, .null, .null, .int 0, .int 0, .int 0, .int 0]))] sz) := by
  refine Met.ofW (cc := cX2_init) (maxL := 3) (ret := none) (by decide) rfl ?_
  intro p e s m args below meth c s₁ B hml hv
  obtain ⟨rfl, hsz, hP, hK, hD0⟩ := hv
  have hx := B.exec
  have hb := B.bytes
  have hr := B.returns
  have hts := atoms_spec (ws := wsX2_init) B.pre
  have hown : s.vm.findClass RX2 = some m.cls := findClass_of_methodNamed B.named
  have hlocks := B.notSynchronized
  have hin : meth.name = "<init>" := (name_of_methodNamed B.named B.method).1
  have hwX2 : ∀ w ∈ u_ws RX2 TX2 10, w ∈ wsX2_init := by decide +kernel
  subst hsz
  have hD := hD0.self (sz := s.heap.size)
  generalize hAe : va_A [(h0, .inr (2, [.int 0, .null, .null, .null, .null, .null, .int 0, .int 0, .int 0, .int 0]))] s.heap.size = A at hD ⊢
  have hA : ∀ q : Nat, s.heap.size ≤ q → A q := fun q h => by rw [← hAe]; exact Or.inr h
  have hS0 : ∀ H, s.heap = H → va_S A s.heap H [] := fun H h => by subst h; exact va_S.rf
  have hl := lv_entry ([.ref h0, .int x]) (n := 3) (Nat.le_of_ble_eq_true rfl)
  rw [lg_entry_eq]
  generalize (lg_sl ([.ref h0, .int x]) ++ List.replicate (3 - (lg_sl ([.ref h0, .int x])).length) Slot.unset).toArray = ls at hl ⊢
  have hl : lv_has ls 3 [(0, .ref h0), (1, .int x)] := hl
  generalize hHe : s.heap = H at hP ⊢
  have hS := hS0 H hHe
  refine lv_aload_n hx hb dX2_init_0 rfl (lv_at hl 0 rfl) ?_
  refine W.objInit hx hb hown (hts (.methodLink RX2 1 objectInit) (by decide +kernel)) (hts (.instanceMethod objectInit) (by decide +kernel)) (hts _ (List.mem_cons_of_mem _ (List.mem_append_left _ (List.mem_of_getElem? (i := 2) rfl)))) rfl (by rw [hml]; exact hl.1) rfl dX2_init_1 (Nat.le_of_ble_eq_true rfl) (Nat.le_of_ble_eq_true rfl) ?_
  refine W.eq (g2 := F0 m 4 ls []) rfl ?_
  refine lv_aload_n hx hb dX2_init_4 rfl (lv_at hl 0 rfl) ?_
  refine lv_sipush (v := nI 320) hx hb dX2_init_5 (by decide) ?_
  refine va_newa (atype := .int) (ty := .int) (n := nI 320) (N' := 320) (a0 := (320, .inl (fun _ => 0))) hx hb (hts (.arrayClass .int) (by decide +kernel)) rfl hK hP hD hS hA (fun _ => rfl) (nI_pos (by decide)) (nI_clamp (by decide)) (by decide) (Nat.le_of_ble_eq_true rfl) (Nat.le_of_ble_eq_true rfl) dX2_init_8 (fun qa_1 cA_2 H hK hP hD hS => ?_)
  replace hP : va_P (dC, dI) vwCl [(h0, .inr (2, [.int 0, .null, .null, .null, .null, .null, .int 0, .int 0, .int 0, .int 0])), (qa_1, .inl (cA_2, 320, .inl (fun _ => 0)))] H := hP
  replace hD : va_D A [(h0, .inr (2, [.int 0, .null, .null, .null, .null, .null, .int 0, .int 0, .int 0, .int 0])), (qa_1, .inl (cA_2, 320, .inl (fun _ => 0)))] := hD
  replace hK : va_K (dC, dI) vwCl [(cA_2, .int)] s := hK
  refine va_putF (D := (dC, dI)) (ci := 2) (v := .ref qa_1) (ty := (.array .int)) (C := RX2) (T := TX2) (N := 10) hx hb hts hwX2 tyX2 tyX2_ok nmX2 hown hK hP hD hS 0 rfl rfl 1 (by decide) (hts (.fieldLink RX2 7 "ArcCacheModel" "lists" "[I") (by decide +kernel)) (fun _ h9 => h9) rfl hin rfl (by decide +kernel) rfl rfl (Nat.le_of_ble_eq_true rfl) dX2_init_10 (fun H locs hP hD hS => ?_)
  replace hP : va_P (dC, dI) vwCl [(h0, .inr (2, [.int 0, .ref qa_1, .null, .null, .null, .null, .int 0, .int 0, .int 0, .int 0])), (qa_1, .inl (cA_2, 320, .inl (fun _ => 0)))] H := hP
  replace hD : va_D A [(h0, .inr (2, [.int 0, .ref qa_1, .null, .null, .null, .null, .int 0, .int 0, .int 0, .int 0])), (qa_1, .inl (cA_2, 320, .inl (fun _ => 0)))] := hD
  refine lv_aload_n hx hb dX2_init_13 rfl (lv_at hl 0 rfl) ?_
  refine lv_iconst (v := nI 5) hx hb dX2_init_14 (by decide) ?_
  refine va_newa (atype := .int) (ty := .int) (n := nI 5) (N' := 5) (a0 := (5, .inl (fun _ => 0))) hx hb (hts (.arrayClass .int) (by decide +kernel)) rfl hK hP hD hS hA (fun _ => rfl) (nI_pos (by decide)) (nI_clamp (by decide)) (by decide) (Nat.le_of_ble_eq_true rfl) (Nat.le_of_ble_eq_true rfl) dX2_init_15 (fun qa_3 cA_4 H hK hP hD hS => ?_)
  replace hP : va_P (dC, dI) vwCl [(h0, .inr (2, [.int 0, .ref qa_1, .null, .null, .null, .null, .int 0, .int 0, .int 0, .int 0])), (qa_1, .inl (cA_2, 320, .inl (fun _ => 0))), (qa_3, .inl (cA_4, 5, .inl (fun _ => 0)))] H := hP
  replace hD : va_D A [(h0, .inr (2, [.int 0, .ref qa_1, .null, .null, .null, .null, .int 0, .int 0, .int 0, .int 0])), (qa_1, .inl (cA_2, 320, .inl (fun _ => 0))), (qa_3, .inl (cA_4, 5, .inl (fun _ => 0)))] := hD
  replace hK : va_K (dC, dI) vwCl [(cA_2, .int), (cA_4, .int)] s := hK
  refine va_putF (D := (dC, dI)) (ci := 2) (v := .ref qa_3) (ty := (.array .int)) (C := RX2) (T := TX2) (N := 10) hx hb hts hwX2 tyX2 tyX2_ok nmX2 hown hK hP hD hS 0 rfl rfl 2 (by decide) (hts (.fieldLink RX2 13 "ArcCacheModel" "many" "[I") (by decide +kernel)) (fun _ h9 => h9) rfl hin rfl (by decide +kernel) rfl rfl (Nat.le_of_ble_eq_true rfl) dX2_init_17 (fun H locs hP hD hS => ?_)
  replace hP : va_P (dC, dI) vwCl [(h0, .inr (2, [.int 0, .ref qa_1, .ref qa_3, .null, .null, .null, .int 0, .int 0, .int 0, .int 0])), (qa_1, .inl (cA_2, 320, .inl (fun _ => 0))), (qa_3, .inl (cA_4, 5, .inl (fun _ => 0)))] H := hP
  replace hD : va_D A [(h0, .inr (2, [.int 0, .ref qa_1, .ref qa_3, .null, .null, .null, .int 0, .int 0, .int 0, .int 0])), (qa_1, .inl (cA_2, 320, .inl (fun _ => 0))), (qa_3, .inl (cA_4, 5, .inl (fun _ => 0)))] := hD
  refine lv_aload_n hx hb dX2_init_20 rfl (lv_at hl 0 rfl) ?_
  refine lv_bipush (v := nI 64) hx hb dX2_init_21 (by decide) ?_
  refine va_newa (atype := .int) (ty := .int) (n := nI 64) (N' := 64) (a0 := (64, .inl (fun _ => 0))) hx hb (hts (.arrayClass .int) (by decide +kernel)) rfl hK hP hD hS hA (fun _ => rfl) (nI_pos (by decide)) (nI_clamp (by decide)) (by decide) (Nat.le_of_ble_eq_true rfl) (Nat.le_of_ble_eq_true rfl) dX2_init_23 (fun qa_5 cA_6 H hK hP hD hS => ?_)
  replace hP : va_P (dC, dI) vwCl [(h0, .inr (2, [.int 0, .ref qa_1, .ref qa_3, .null, .null, .null, .int 0, .int 0, .int 0, .int 0])), (qa_1, .inl (cA_2, 320, .inl (fun _ => 0))), (qa_3, .inl (cA_4, 5, .inl (fun _ => 0))), (qa_5, .inl (cA_6, 64, .inl (fun _ => 0)))] H := hP
  replace hD : va_D A [(h0, .inr (2, [.int 0, .ref qa_1, .ref qa_3, .null, .null, .null, .int 0, .int 0, .int 0, .int 0])), (qa_1, .inl (cA_2, 320, .inl (fun _ => 0))), (qa_3, .inl (cA_4, 5, .inl (fun _ => 0))), (qa_5, .inl (cA_6, 64, .inl (fun _ => 0)))] := hD
  replace hK : va_K (dC, dI) vwCl [(cA_2, .int), (cA_4, .int), (cA_6, .int)] s := hK
  refine va_putF (D := (dC, dI)) (ci := 2) (v := .ref qa_5) (ty := (.array .int)) (C := RX2) (T := TX2) (N := 10) hx hb hts hwX2 tyX2 tyX2_ok nmX2 hown hK hP hD hS 0 rfl rfl 3 (by decide) (hts (.fieldLink RX2 16 "ArcCacheModel" "store" "[I") (by decide +kernel)) (fun _ h9 => h9) rfl hin rfl (by decide +kernel) rfl rfl (Nat.le_of_ble_eq_true rfl) dX2_init_25 (fun H locs hP hD hS => ?_)
  replace hP : va_P (dC, dI) vwCl [(h0, .inr (2, [.int 0, .ref qa_1, .ref qa_3, .ref qa_5, .null, .null, .int 0, .int 0, .int 0, .int 0])), (qa_1, .inl (cA_2, 320, .inl (fun _ => 0))), (qa_3, .inl (cA_4, 5, .inl (fun _ => 0))), (qa_5, .inl (cA_6, 64, .inl (fun _ => 0)))] H := hP
  replace hD : va_D A [(h0, .inr (2, [.int 0, .ref qa_1, .ref qa_3, .ref qa_5, .null, .null, .int 0, .int 0, .int 0, .int 0])), (qa_1, .inl (cA_2, 320, .inl (fun _ => 0))), (qa_3, .inl (cA_4, 5, .inl (fun _ => 0))), (qa_5, .inl (cA_6, 64, .inl (fun _ => 0)))] := hD
  refine lv_aload_n hx hb dX2_init_28 rfl (lv_at hl 0 rfl) ?_
  refine lv_bipush (v := nI 64) hx hb dX2_init_29 (by decide) ?_
  refine va_newa (atype := .int) (ty := .int) (n := nI 64) (N' := 64) (a0 := (64, .inl (fun _ => 0))) hx hb (hts (.arrayClass .int) (by decide +kernel)) rfl hK hP hD hS hA (fun _ => rfl) (nI_pos (by decide)) (nI_clamp (by decide)) (by decide) (Nat.le_of_ble_eq_true rfl) (Nat.le_of_ble_eq_true rfl) dX2_init_31 (fun qa_7 cA_8 H hK hP hD hS => ?_)
  replace hP : va_P (dC, dI) vwCl [(h0, .inr (2, [.int 0, .ref qa_1, .ref qa_3, .ref qa_5, .null, .null, .int 0, .int 0, .int 0, .int 0])), (qa_1, .inl (cA_2, 320, .inl (fun _ => 0))), (qa_3, .inl (cA_4, 5, .inl (fun _ => 0))), (qa_5, .inl (cA_6, 64, .inl (fun _ => 0))), (qa_7, .inl (cA_8, 64, .inl (fun _ => 0)))] H := hP
  replace hD : va_D A [(h0, .inr (2, [.int 0, .ref qa_1, .ref qa_3, .ref qa_5, .null, .null, .int 0, .int 0, .int 0, .int 0])), (qa_1, .inl (cA_2, 320, .inl (fun _ => 0))), (qa_3, .inl (cA_4, 5, .inl (fun _ => 0))), (qa_5, .inl (cA_6, 64, .inl (fun _ => 0))), (qa_7, .inl (cA_8, 64, .inl (fun _ => 0)))] := hD
  replace hK : va_K (dC, dI) vwCl [(cA_2, .int), (cA_4, .int), (cA_6, .int), (cA_8, .int)] s := hK
  refine va_putF (D := (dC, dI)) (ci := 2) (v := .ref qa_7) (ty := (.array .int)) (C := RX2) (T := TX2) (N := 10) hx hb hts hwX2 tyX2 tyX2_ok nmX2 hown hK hP hD hS 0 rfl rfl 4 (by decide) (hts (.fieldLink RX2 19 "ArcCacheModel" "words" "[I") (by decide +kernel)) (fun _ h9 => h9) rfl hin rfl (by decide +kernel) rfl rfl (Nat.le_of_ble_eq_true rfl) dX2_init_33 (fun H locs hP hD hS => ?_)
  replace hP : va_P (dC, dI) vwCl [(h0, .inr (2, [.int 0, .ref qa_1, .ref qa_3, .ref qa_5, .ref qa_7, .null, .int 0, .int 0, .int 0, .int 0])), (qa_1, .inl (cA_2, 320, .inl (fun _ => 0))), (qa_3, .inl (cA_4, 5, .inl (fun _ => 0))), (qa_5, .inl (cA_6, 64, .inl (fun _ => 0))), (qa_7, .inl (cA_8, 64, .inl (fun _ => 0)))] H := hP
  replace hD : va_D A [(h0, .inr (2, [.int 0, .ref qa_1, .ref qa_3, .ref qa_5, .ref qa_7, .null, .int 0, .int 0, .int 0, .int 0])), (qa_1, .inl (cA_2, 320, .inl (fun _ => 0))), (qa_3, .inl (cA_4, 5, .inl (fun _ => 0))), (qa_5, .inl (cA_6, 64, .inl (fun _ => 0))), (qa_7, .inl (cA_8, 64, .inl (fun _ => 0)))] := hD
  refine lv_aload_n hx hb dX2_init_36 rfl (lv_at hl 0 rfl) ?_
  refine lv_bipush (v := nI 64) hx hb dX2_init_37 (by decide) ?_
  refine va_newa (atype := .boolean) (ty := .boolean) (n := nI 64) (N' := 64) (a0 := (64, .inl (fun _ => 0))) hx hb (hts (.arrayClass .boolean) (by decide +kernel)) rfl hK hP hD hS hA (fun _ => rfl) (nI_pos (by decide)) (nI_clamp (by decide)) (by decide) (Nat.le_of_ble_eq_true rfl) (Nat.le_of_ble_eq_true rfl) dX2_init_39 (fun qa_9 cA_10 H hK hP hD hS => ?_)
  replace hP : va_P (dC, dI) vwCl [(h0, .inr (2, [.int 0, .ref qa_1, .ref qa_3, .ref qa_5, .ref qa_7, .null, .int 0, .int 0, .int 0, .int 0])), (qa_1, .inl (cA_2, 320, .inl (fun _ => 0))), (qa_3, .inl (cA_4, 5, .inl (fun _ => 0))), (qa_5, .inl (cA_6, 64, .inl (fun _ => 0))), (qa_7, .inl (cA_8, 64, .inl (fun _ => 0))), (qa_9, .inl (cA_10, 64, .inl (fun _ => 0)))] H := hP
  replace hD : va_D A [(h0, .inr (2, [.int 0, .ref qa_1, .ref qa_3, .ref qa_5, .ref qa_7, .null, .int 0, .int 0, .int 0, .int 0])), (qa_1, .inl (cA_2, 320, .inl (fun _ => 0))), (qa_3, .inl (cA_4, 5, .inl (fun _ => 0))), (qa_5, .inl (cA_6, 64, .inl (fun _ => 0))), (qa_7, .inl (cA_8, 64, .inl (fun _ => 0))), (qa_9, .inl (cA_10, 64, .inl (fun _ => 0)))] := hD
  replace hK : va_K (dC, dI) vwCl [(cA_2, .int), (cA_4, .int), (cA_6, .int), (cA_8, .int), (cA_10, .boolean)] s := hK
  refine va_putF (D := (dC, dI)) (ci := 2) (v := .ref qa_9) (ty := (.array .boolean)) (C := RX2) (T := TX2) (N := 10) hx hb hts hwX2 tyX2 tyX2_ok nmX2 hown hK hP hD hS 0 rfl rfl 5 (by decide) (hts (.fieldLink RX2 22 "ArcCacheModel" "dirty" "[Z") (by decide +kernel)) (fun _ h9 => h9) rfl hin rfl (by decide +kernel) rfl rfl (Nat.le_of_ble_eq_true rfl) dX2_init_41 (fun H locs hP hD hS => ?_)
  replace hP : va_P (dC, dI) vwCl [(h0, .inr (2, [.int 0, .ref qa_1, .ref qa_3, .ref qa_5, .ref qa_7, .ref qa_9, .int 0, .int 0, .int 0, .int 0])), (qa_1, .inl (cA_2, 320, .inl (fun _ => 0))), (qa_3, .inl (cA_4, 5, .inl (fun _ => 0))), (qa_5, .inl (cA_6, 64, .inl (fun _ => 0))), (qa_7, .inl (cA_8, 64, .inl (fun _ => 0))), (qa_9, .inl (cA_10, 64, .inl (fun _ => 0)))] H := hP
  replace hD : va_D A [(h0, .inr (2, [.int 0, .ref qa_1, .ref qa_3, .ref qa_5, .ref qa_7, .ref qa_9, .int 0, .int 0, .int 0, .int 0])), (qa_1, .inl (cA_2, 320, .inl (fun _ => 0))), (qa_3, .inl (cA_4, 5, .inl (fun _ => 0))), (qa_5, .inl (cA_6, 64, .inl (fun _ => 0))), (qa_7, .inl (cA_8, 64, .inl (fun _ => 0))), (qa_9, .inl (cA_10, 64, .inl (fun _ => 0)))] := hD
  refine lv_iload_n hx hb dX2_init_44 rfl (lv_at hl 1 rfl) ?_
  refine lv_bipush (v := nI 24) hx hb dX2_init_45 (by decide) ?_
  obtain ⟨i, hi47, ei, er, hp23, hn23⟩ := ap_rem x
  obtain ⟨hf2, hf3, hf4, hf5⟩ := ap_rem_f ⟨i, hi47⟩
  dsimp only at hf2 hf3 hf4 hf5
  refine lv_irem hx hb dX2_init_47 (by decide) ?_
  refine lv_topi (fun x_11 e_x_11 => ?_)
  have e_x_11 : x_11 = Int32.ofInt ((i : Int) - 23) := by rw [e_x_11]; exact ei
  subst e_x_11
  refine lv_istore_n (lv' := [(2, .int (Int32.ofInt ((i : Int) - 23))), (0, .ref h0), (1, .int x)]) hx hb dX2_init_48 rfl hl (by decide) rfl (fun ls hl => ?_)
  refine lv_aload_n hx hb dX2_init_49 rfl (lv_at hl 1 rfl) ?_
  refine lv_iconst (v := nI 1) hx hb dX2_init_50 (by decide) ?_
  refine lv_iload_n hx hb dX2_init_51 rfl (lv_at hl 0 rfl) ?_
  refine lv_if_ge (tgt := 62) hx hb dX2_init_52 (by decide) (fun c_52 => ?_) (fun c_52 => ?_)
  · skip
    refine lv_iload_n hx hb dX2_init_62 rfl (lv_at hl 0 rfl) ?_
    refine lv_topi (fun x_12 e_x_12 => ?_)
    have e_x_12 : x_12 = nI (ap_r x) := by rw [e_x_12]; rw [er, if_pos (hf4.mp c_52)]; exact hf2 (hf4.mp c_52)
    subst e_x_12
    refine lv_iadd hx hb dX2_init_63 ?_
    refine lv_topi (fun x_13 e_x_13 => ?_)
    have e_x_13 : x_13 = nI (1 + (ap_r x)) := by rw [e_x_13]; exact nI_add _ _
    subst e_x_13
    refine lv_topi (fun x_14 e_x_14 => ?_)
    have e_x_14 : x_14 = nI (ap_r x + 1) := by rw [e_x_14]; rw [Nat.add_comm]
    subst e_x_14
    refine va_putF (D := (dC, dI)) (ci := 2) (v := .int (nI (ap_r x + 1))) (ty := .int) (C := RX2) (T := TX2) (N := 10) hx hb hts hwX2 tyX2 tyX2_ok nmX2 hown hK hP hD hS 0 rfl rfl 0 (by decide) (hts (.fieldLink RX2 26 "ArcCacheModel" "pages" "I") (by decide +kernel)) (fun _ h9 => h9) rfl hin rfl (by decide +kernel) rfl rfl (Nat.le_of_ble_eq_true rfl) dX2_init_64 (fun H locs hP hD hS => ?_)
    replace hP : va_P (dC, dI) vwCl [(h0, .inr (2, [.int (nI (ap_r x + 1)), .ref qa_1, .ref qa_3, .ref qa_5, .ref qa_7, .ref qa_9, .int 0, .int 0, .int 0, .int 0])), (qa_1, .inl (cA_2, 320, .inl (fun _ => 0))), (qa_3, .inl (cA_4, 5, .inl (fun _ => 0))), (qa_5, .inl (cA_6, 64, .inl (fun _ => 0))), (qa_7, .inl (cA_8, 64, .inl (fun _ => 0))), (qa_9, .inl (cA_10, 64, .inl (fun _ => 0)))] H := hP
    replace hD : va_D A [(h0, .inr (2, [.int (nI (ap_r x + 1)), .ref qa_1, .ref qa_3, .ref qa_5, .ref qa_7, .ref qa_9, .int 0, .int 0, .int 0, .int 0])), (qa_1, .inl (cA_2, 320, .inl (fun _ => 0))), (qa_3, .inl (cA_4, 5, .inl (fun _ => 0))), (qa_5, .inl (cA_6, 64, .inl (fun _ => 0))), (qa_7, .inl (cA_8, 64, .inl (fun _ => 0))), (qa_9, .inl (cA_10, 64, .inl (fun _ => 0)))] := hD
    exact W.vret hx hb hr (fun t ht hW => ⟨⟨((fun j => match j with | 0 => h0 | 1 => qa_1 | 2 => qa_3 | 3 => qa_5 | 4 => qa_7 | _ => qa_9), (fun j => match j with | 1 => cA_2 | 2 => cA_4 | 3 => cA_6 | 4 => cA_8 | _ => cA_10)), rfl, trivial, rfl, by rw [ht]; exact hP, va_K.moved hW.alike hK, hD⟩, hS.F ht⟩) hS.2.2 dX2_init_67
  · skip
    refine lv_iload_n hx hb dX2_init_55 rfl (lv_at hl 0 rfl) ?_
    refine lv_bipush (v := nI 24) hx hb dX2_init_56 (by decide) ?_
    refine lv_iadd hx hb dX2_init_58 ?_
    refine lv_goto (tgt := 63) hx hb dX2_init_59 (by decide) ?_
    refine lv_topi (fun x_15 e_x_15 => ?_)
    have e_x_15 : x_15 = nI (ap_r x) := by rw [e_x_15]; rw [er, if_neg (fun h9 => c_52 (hf4.mpr h9))]; exact hf3 (fun h9 => c_52 (hf4.mpr h9))
    subst e_x_15
    refine lv_iadd hx hb dX2_init_63 ?_
    refine lv_topi (fun x_16 e_x_16 => ?_)
    have e_x_16 : x_16 = nI (1 + (ap_r x)) := by rw [e_x_16]; exact nI_add _ _
    subst e_x_16
    refine lv_topi (fun x_17 e_x_17 => ?_)
    have e_x_17 : x_17 = nI (ap_r x + 1) := by rw [e_x_17]; rw [Nat.add_comm]
    subst e_x_17
    refine va_putF (D := (dC, dI)) (ci := 2) (v := .int (nI (ap_r x + 1))) (ty := .int) (C := RX2) (T := TX2) (N := 10) hx hb hts hwX2 tyX2 tyX2_ok nmX2 hown hK hP hD hS 0 rfl rfl 0 (by decide) (hts (.fieldLink RX2 26 "ArcCacheModel" "pages" "I") (by decide +kernel)) (fun _ h9 => h9) rfl hin rfl (by decide +kernel) rfl rfl (Nat.le_of_ble_eq_true rfl) dX2_init_64 (fun H locs hP hD hS => ?_)
    replace hP : va_P (dC, dI) vwCl [(h0, .inr (2, [.int (nI (ap_r x + 1)), .ref qa_1, .ref qa_3, .ref qa_5, .ref qa_7, .ref qa_9, .int 0, .int 0, .int 0, .int 0])), (qa_1, .inl (cA_2, 320, .inl (fun _ => 0))), (qa_3, .inl (cA_4, 5, .inl (fun _ => 0))), (qa_5, .inl (cA_6, 64, .inl (fun _ => 0))), (qa_7, .inl (cA_8, 64, .inl (fun _ => 0))), (qa_9, .inl (cA_10, 64, .inl (fun _ => 0)))] H := hP
    replace hD : va_D A [(h0, .inr (2, [.int (nI (ap_r x + 1)), .ref qa_1, .ref qa_3, .ref qa_5, .ref qa_7, .ref qa_9, .int 0, .int 0, .int 0, .int 0])), (qa_1, .inl (cA_2, 320, .inl (fun _ => 0))), (qa_3, .inl (cA_4, 5, .inl (fun _ => 0))), (qa_5, .inl (cA_6, 64, .inl (fun _ => 0))), (qa_7, .inl (cA_8, 64, .inl (fun _ => 0))), (qa_9, .inl (cA_10, 64, .inl (fun _ => 0)))] := hD
    exact W.vret hx hb hr (fun t ht hW => ⟨⟨((fun j => match j with | 0 => h0 | 1 => qa_1 | 2 => qa_3 | 3 => qa_5 | 4 => qa_7 | _ => qa_9), (fun j => match j with | 1 => cA_2 | 2 => cA_4 | 3 => cA_6 | 4 => cA_8 | _ => cA_10)), rfl, trivial, rfl, by rw [ht]; exact hP, va_K.moved hW.alike hK, hD⟩, hS.F ht⟩) hS.2.2 dX2_init_67
