-- THE REFERENCE, second part (laid by wip/gen/mm2.py)
set_option maxHeartbeats 4000000 in
set_option maxRecDepth 100000 in
theorem c_M_old (l : Launch) (dC : Nat → ClassId) (dI : Nat → Nat → Nat) (q : Nat → Nat) (ca : Nat → ClassId) (C : Nat) (f n w d st : Nat → Int32) (tg : Nat) (hi mi go : Int32) (L : Nat → List Int32) (k : Nat) (sz : Nat) (hfm : fm_ok f n L) (hI : ap_inv L) (hz : ap_tot L ≤ 48) (hka : 1 ≤ k) (hkb : k ≤ 4) (hne : L k ≠ []) : Met l yX2_old wsX2_old ({ frames := 0, cells := 0, slots := 0, locals := 0 }) (va_Pc [.ref (q 0), .int (nI k)] (fun U => U.heap.size = sz ∧ va_P (dC, dI) vwCl (cm q ca C f n w d st tg hi mi go) U.heap ∧ va_K (dC, dI) vwCl (km ca) U ∧ va_D (fun _ => True) (cm q ca C f n w d st tg hi mi go))) (va_Qi (fun (r : Int32) (u : ap_U) => r = ap_old (L k) ∧ u = (L, w, d, st, tg, hi, mi, go)) (at_M dC dI (va_A (cm q ca C f n w d st tg hi mi go) sz) q ca C) (va_A (cm q ca C f n w d st tg hi mi go) sz)) 0 0 (va_A (cm q ca C f n w d st tg hi mi go) sz) := by
  refine Met.ofW (cc := cX2_old) (maxL := 2) (ret := (some .int)) (by decide) rfl ?_
  intro p e s m args below meth c s₁ B hml hv
  obtain ⟨rfl, hsz, hP, hK, hD0⟩ := hv
  have hx := B.exec
  have hb := B.bytes
  have hr := B.returns
  have hts := atoms_spec (ws := wsX2_old) B.pre
  have hown : s.vm.findClass RX2 = some m.cls := findClass_of_methodNamed B.named
  have hlocks := B.notSynchronized
  have hwX2 : ∀ w ∈ u_ws RX2 TX2 10, w ∈ wsX2_old := by decide +kernel
  subst hsz
  have hD := hD0.self (sz := s.heap.size)
  generalize hAe : va_A (cm q ca C f n w d st tg hi mi go) s.heap.size = A at hD ⊢
  have hA : ∀ q : Nat, s.heap.size ≤ q → A q := fun q h => by rw [← hAe]; exact Or.inr h
  have hS0 : ∀ H, s.heap = H → va_S A s.heap H [] := fun H h => by subst h; exact va_S.rf
  have hl := lv_entry ([.ref (q 0), .int (nI k)]) (n := 2) (Nat.le_of_ble_eq_true rfl)
  rw [lg_entry_eq]
  generalize (lg_sl ([.ref (q 0), .int (nI k)]) ++ List.replicate (2 - (lg_sl ([.ref (q 0), .int (nI k)])).length) Slot.unset).toArray = ls at hl ⊢
  have hl : lv_has ls 2 [(0, .ref (q 0)), (1, .int (nI k))] := hl
  generalize hHe : s.heap = H at hP ⊢
  have hS := hS0 H hHe
  have hza := ap_z_all hz
  have hzk := hza k hka hkb
  have hpos : 0 < (L k).length := List.length_pos_iff.mpr hne
  have hold9 : f (64 * k + (L k).length - 1) = ap_old (L k) := by
    have h9 := (hfm k hka hkb).2 ((L k).length - 1) (by omega)
    rw [ap_old_at hne] at h9
    have e9 : 64 * k + (L k).length - 1 = 64 * k + ((L k).length - 1) := by omega
    rw [e9]
    exact (Option.some.inj h9).symm
  refine lv_aload_n hx hb dX2_old_0 rfl (lv_at hl 0 rfl) ?_
  refine va_get (D := (dC, dI)) (ci := 2) (v := .ref (q 1)) (C := RX2) (T := TX2) (N := 10) hx hb hts hwX2 hown hK hP 0 rfl rfl 1 (by decide) (hts (.fieldLink RX2 7 "ArcCacheModel" "lists" "[I") (by decide +kernel)) (fun _ h9 => h9) rfl dX2_old_1 ?_
  refine lv_bipush (v := nI 64) hx hb dX2_old_4 (by decide) ?_
  refine lv_iload_n hx hb dX2_old_6 rfl (lv_at hl 1 rfl) ?_
  refine lv_imul hx hb dX2_old_7 ?_
  refine lv_topi (fun x_1 e_x_1 => ?_)
  have e_x_1 : x_1 = nI (64 * k) := by rw [e_x_1]; exact pk_mul _ _
  subst e_x_1
  refine lv_aload_n hx hb dX2_old_8 rfl (lv_at hl 0 rfl) ?_
  refine va_get (D := (dC, dI)) (ci := 2) (v := .ref (q 2)) (C := RX2) (T := TX2) (N := 10) hx hb hts hwX2 hown hK hP 0 rfl rfl 2 (by decide) (hts (.fieldLink RX2 13 "ArcCacheModel" "many" "[I") (by decide +kernel)) (fun _ h9 => h9) rfl dX2_old_9 ?_
  refine lv_iload_n hx hb dX2_old_12 rfl (lv_at hl 1 rfl) ?_
  refine va_iald hx hb hK hP 2 1 rfl rfl (vp_in_nI (show k < 5 by omega) (by decide)) dX2_old_13 ?_
  refine lv_topi (fun x_3 e_x_3 => ?_)
  have e_x_3 : x_3 = n k := by rw [e_x_3]; rw [nI_clamp (by omega)]
  subst e_x_3
  refine lv_topi (fun x_4 e_x_4 => ?_)
  have e_x_4 : x_4 = nI ((L k).length) := by rw [e_x_4]; exact (hfm k hka hkb).1
  subst e_x_4
  refine lv_iadd hx hb dX2_old_14 ?_
  refine lv_topi (fun x_5 e_x_5 => ?_)
  have e_x_5 : x_5 = nI ((64 * k) + ((L k).length)) := by rw [e_x_5]; exact nI_add _ _
  subst e_x_5
  refine lv_iconst (v := nI 1) hx hb dX2_old_15 (by decide) ?_
  refine lv_isub hx hb dX2_old_16 ?_
  refine lv_topi (fun x_6 e_x_6 => ?_)
  have e_x_6 : x_6 = nI (((64 * k) + ((L k).length)) - 1) := by rw [e_x_6]; exact pk_sub (by omega)
  subst e_x_6
  refine va_iald hx hb hK hP 1 0 rfl rfl (vp_in_nI (show ((64 * k) + ((L k).length)) - 1 < 320 by omega) (by decide)) dX2_old_17 ?_
  refine lv_topi (fun x_8 e_x_8 => ?_)
  have e_x_8 : x_8 = f (((64 * k) + ((L k).length)) - 1) := by rw [e_x_8]; rw [nI_clamp (by omega)]
  subst e_x_8
  exact W.iret (v := f (((64 * k) + ((L k).length)) - 1)) hx hb hr (fun t ht hW => ⟨⟨f (((64 * k) + ((L k).length)) - 1), (L, w, d, st, tg, hi, mi, go), rfl, ⟨hold9, rfl⟩, f, n, hfm, by rw [ht]; exact hP, va_K.moved hW.alike hK, hD⟩, hS.F ht⟩) hS.2.2 dX2_old_18
set_option maxHeartbeats 4000000 in
set_option maxRecDepth 100000 in
theorem c_M_clean (l : Launch) (dC : Nat → ClassId) (dI : Nat → Nat → Nat) (q : Nat → Nat) (ca : Nat → ClassId) (C : Nat) (f n w d st : Nat → Int32) (tg : Nat) (hi mi go : Int32) (L : Nat → List Int32) (x : Int32) (sz : Nat) (hfm : fm_ok f n L) (hx64 : vp_in x 64) : Met l yX2_clean wsX2_clean ({ frames := 0, cells := 0, slots := 0, locals := 0 }) (va_Pc [.ref (q 0), .int x] (fun U => U.heap.size = sz ∧ va_P (dC, dI) vwCl (cm q ca C f n w d st tg hi mi go) U.heap ∧ va_K (dC, dI) vwCl (km ca) U ∧ va_D (fun _ => True) (cm q ca C f n w d st tg hi mi go))) (va_Qv (fun (u : ap_U) => u = (L, w, ap_cd d x, ap_cs w d st x, tg, hi, mi, go)) (at_M dC dI (va_A (cm q ca C f n w d st tg hi mi go) sz) q ca C) (va_A (cm q ca C f n w d st tg hi mi go) sz)) 0 0 (va_A (cm q ca C f n w d st tg hi mi go) sz) := by
  refine Met.ofW (cc := cX2_clean) (maxL := 2) (ret := none) (by decide) rfl ?_
  intro p e s m args below meth c s₁ B hml hv
  obtain ⟨rfl, hsz, hP, hK, hD0⟩ := hv
  have hx := B.exec
  have hb := B.bytes
  have hr := B.returns
  have hts := atoms_spec (ws := wsX2_clean) B.pre
  have hown : s.vm.findClass RX2 = some m.cls := findClass_of_methodNamed B.named
  have hlocks := B.notSynchronized
  have hwX2 : ∀ w ∈ u_ws RX2 TX2 10, w ∈ wsX2_clean := by decide +kernel
  subst hsz
  have hD := hD0.self (sz := s.heap.size)
  generalize hAe : va_A (cm q ca C f n w d st tg hi mi go) s.heap.size = A at hD ⊢
  have hA : ∀ q : Nat, s.heap.size ≤ q → A q := fun q h => by rw [← hAe]; exact Or.inr h
  have hS0 : ∀ H, s.heap = H → va_S A s.heap H [] := fun H h => by subst h; exact va_S.rf
  have hl := lv_entry ([.ref (q 0), .int x]) (n := 2) (Nat.le_of_ble_eq_true rfl)
  rw [lg_entry_eq]
  generalize (lg_sl ([.ref (q 0), .int x]) ++ List.replicate (2 - (lg_sl ([.ref (q 0), .int x])).length) Slot.unset).toArray = ls at hl ⊢
  have hl : lv_has ls 2 [(0, .ref (q 0)), (1, .int x)] := hl
  generalize hHe : s.heap = H at hP ⊢
  have hS := hS0 H hHe
  refine lv_aload_n hx hb dX2_clean_0 rfl (lv_at hl 0 rfl) ?_
  refine va_get (D := (dC, dI)) (ci := 2) (v := .ref (q 3)) (C := RX2) (T := TX2) (N := 10) hx hb hts hwX2 hown hK hP 0 rfl rfl 3 (by decide) (hts (.fieldLink RX2 16 "ArcCacheModel" "store" "[I") (by decide +kernel)) (fun _ h9 => h9) rfl dX2_clean_1 ?_
  refine lv_iload_n hx hb dX2_clean_4 rfl (lv_at hl 1 rfl) ?_
  refine lv_aload_n hx hb dX2_clean_5 rfl (lv_at hl 0 rfl) ?_
  refine va_get (D := (dC, dI)) (ci := 2) (v := .ref (q 5)) (C := RX2) (T := TX2) (N := 10) hx hb hts hwX2 hown hK hP 0 rfl rfl 5 (by decide) (hts (.fieldLink RX2 22 "ArcCacheModel" "dirty" "[Z") (by decide +kernel)) (fun _ h9 => h9) rfl dX2_clean_6 ?_
  refine lv_iload_n hx hb dX2_clean_9 rfl (lv_at hl 1 rfl) ?_
  refine va_zald hx hb hK hP 5 4 rfl rfl hx64 dX2_clean_10 ?_
  refine lv_if_eq (tgt := 23) hx hb dX2_clean_11 (by decide) (fun c_11 => ?_) (fun c_11 => ?_)
  · skip
    refine lv_aload_n hx hb dX2_clean_23 rfl (lv_at hl 0 rfl) ?_
    refine va_get (D := (dC, dI)) (ci := 2) (v := .ref (q 3)) (C := RX2) (T := TX2) (N := 10) hx hb hts hwX2 hown hK hP 0 rfl rfl 3 (by decide) (hts (.fieldLink RX2 16 "ArcCacheModel" "store" "[I") (by decide +kernel)) (fun _ h9 => h9) rfl dX2_clean_24 ?_
    refine lv_iload_n hx hb dX2_clean_27 rfl (lv_at hl 1 rfl) ?_
    refine va_iald hx hb hK hP 3 2 rfl rfl hx64 dX2_clean_28 ?_
    refine va_iast hx hb hK hP hD hS 3 2 rfl rfl hx64 dX2_clean_29 (fun H locs hP hD hS => ?_)
    replace hP : va_P (dC, dI) vwCl (cm q ca C f n w d (upd st x.toNatClampNeg (st x.toNatClampNeg)) tg hi mi go) H := hP
    replace hD : va_D A (cm q ca C f n w d (upd st x.toNatClampNeg (st x.toNatClampNeg)) tg hi mi go) := hD
    refine lv_aload_n hx hb dX2_clean_30 rfl (lv_at hl 0 rfl) ?_
    refine va_get (D := (dC, dI)) (ci := 2) (v := .ref (q 5)) (C := RX2) (T := TX2) (N := 10) hx hb hts hwX2 hown hK hP 0 rfl rfl 5 (by decide) (hts (.fieldLink RX2 22 "ArcCacheModel" "dirty" "[Z") (by decide +kernel)) (fun _ h9 => h9) rfl dX2_clean_31 ?_
    refine lv_iload_n hx hb dX2_clean_34 rfl (lv_at hl 1 rfl) ?_
    refine lv_iconst (v := nI 0) hx hb dX2_clean_35 (by decide) ?_
    refine va_zast hx hb hK hP hD hS 5 4 rfl rfl hx64 dX2_clean_36 (fun H locs hP hD hS => ?_)
    rw [ap_nar0] at hP hD
    replace hP : va_P (dC, dI) vwCl (cm q ca C f n w (upd d x.toNatClampNeg 0) (upd st x.toNatClampNeg (st x.toNatClampNeg)) tg hi mi go) H := hP
    replace hD : va_D A (cm q ca C f n w (upd d x.toNatClampNeg 0) (upd st x.toNatClampNeg (st x.toNatClampNeg)) tg hi mi go) := hD
    exact W.vret hx hb hr (fun t ht hW => ⟨⟨(L, w, upd d x.toNatClampNeg 0, upd st x.toNatClampNeg (st x.toNatClampNeg), tg, hi, mi, go), rfl, by unfold ap_cd ap_cs; first | rw [if_pos c_11] | rw [if_neg c_11], f, n, hfm, by rw [ht]; exact hP, va_K.moved hW.alike hK, hD⟩, hS.F ht⟩) hS.2.2 dX2_clean_37
  · skip
    refine lv_aload_n hx hb dX2_clean_14 rfl (lv_at hl 0 rfl) ?_
    refine va_get (D := (dC, dI)) (ci := 2) (v := .ref (q 4)) (C := RX2) (T := TX2) (N := 10) hx hb hts hwX2 hown hK hP 0 rfl rfl 4 (by decide) (hts (.fieldLink RX2 19 "ArcCacheModel" "words" "[I") (by decide +kernel)) (fun _ h9 => h9) rfl dX2_clean_15 ?_
    refine lv_iload_n hx hb dX2_clean_18 rfl (lv_at hl 1 rfl) ?_
    refine va_iald hx hb hK hP 4 3 rfl rfl hx64 dX2_clean_19 ?_
    refine lv_goto (tgt := 29) hx hb dX2_clean_20 (by decide) ?_
    refine va_iast hx hb hK hP hD hS 3 2 rfl rfl hx64 dX2_clean_29 (fun H locs hP hD hS => ?_)
    replace hP : va_P (dC, dI) vwCl (cm q ca C f n w d (upd st x.toNatClampNeg (w x.toNatClampNeg)) tg hi mi go) H := hP
    replace hD : va_D A (cm q ca C f n w d (upd st x.toNatClampNeg (w x.toNatClampNeg)) tg hi mi go) := hD
    refine lv_aload_n hx hb dX2_clean_30 rfl (lv_at hl 0 rfl) ?_
    refine va_get (D := (dC, dI)) (ci := 2) (v := .ref (q 5)) (C := RX2) (T := TX2) (N := 10) hx hb hts hwX2 hown hK hP 0 rfl rfl 5 (by decide) (hts (.fieldLink RX2 22 "ArcCacheModel" "dirty" "[Z") (by decide +kernel)) (fun _ h9 => h9) rfl dX2_clean_31 ?_
    refine lv_iload_n hx hb dX2_clean_34 rfl (lv_at hl 1 rfl) ?_
    refine lv_iconst (v := nI 0) hx hb dX2_clean_35 (by decide) ?_
    refine va_zast hx hb hK hP hD hS 5 4 rfl rfl hx64 dX2_clean_36 (fun H locs hP hD hS => ?_)
    rw [ap_nar0] at hP hD
    replace hP : va_P (dC, dI) vwCl (cm q ca C f n w (upd d x.toNatClampNeg 0) (upd st x.toNatClampNeg (w x.toNatClampNeg)) tg hi mi go) H := hP
    replace hD : va_D A (cm q ca C f n w (upd d x.toNatClampNeg 0) (upd st x.toNatClampNeg (w x.toNatClampNeg)) tg hi mi go) := hD
    exact W.vret hx hb hr (fun t ht hW => ⟨⟨(L, w, upd d x.toNatClampNeg 0, upd st x.toNatClampNeg (w x.toNatClampNeg), tg, hi, mi, go), rfl, by unfold ap_cd ap_cs; first | rw [if_pos c_11] | rw [if_neg c_11], f, n, hfm, by rw [ht]; exact hP, va_K.moved hW.alike hK, hD⟩, hS.F ht⟩) hS.2.2 dX2_clean_37
set_option maxHeartbeats 4000000 in
set_option maxRecDepth 100000 in
theorem c_M_go (l : Launch) (dC : Nat → ClassId) (dI : Nat → Nat → Nat) (q : Nat → Nat) (ca : Nat → ClassId) (C : Nat) (f n w d st : Nat → Int32) (tg : Nat) (hi mi go : Int32) (L : Nat → List Int32) (x : Int32) (sz : Nat) (hfm : fm_ok f n L) (hx64 : vp_in x 64) : Met l yX2_go wsX2_go ({ frames := 1, cells := 0, slots := 0, locals := 21 }) (va_Pc [.ref (q 0), .int x] (fun U => U.heap.size = sz ∧ va_P (dC, dI) vwCl (cm q ca C f n w d st tg hi mi go) U.heap ∧ va_K (dC, dI) vwCl (km ca) U ∧ va_D (fun _ => True) (cm q ca C f n w d st tg hi mi go))) (va_Qv (fun (u : ap_U) => u = (L, w, ap_cd d x, ap_cs w d st x, tg, hi, mi, go + 1)) (at_M dC dI (va_A (cm q ca C f n w d st tg hi mi go) sz) q ca C) (va_A (cm q ca C f n w d st tg hi mi go) sz)) 0 0 (va_A (cm q ca C f n w d st tg hi mi go) sz) := by
  refine Met.ofW (cc := cX2_go) (maxL := 2) (ret := none) (by decide) rfl ?_
  intro p e s m args below meth c s₁ B hml hv
  obtain ⟨rfl, hsz, hP, hK, hD0⟩ := hv
  have hx := B.exec
  have hb := B.bytes
  have hr := B.returns
  have hts := atoms_spec (ws := wsX2_go) B.pre
  have hown : s.vm.findClass RX2 = some m.cls := findClass_of_methodNamed B.named
  have hlocks := B.notSynchronized
  have hwX2 : ∀ w ∈ u_ws RX2 TX2 10, w ∈ wsX2_go := by decide +kernel
  subst hsz
  have hD := hD0.self (sz := s.heap.size)
  generalize hAe : va_A (cm q ca C f n w d st tg hi mi go) s.heap.size = A at hD ⊢
  have hA : ∀ q : Nat, s.heap.size ≤ q → A q := fun q h => by rw [← hAe]; exact Or.inr h
  have hS0 : ∀ H, s.heap = H → va_S A s.heap H [] := fun H h => by subst h; exact va_S.rf
  have hl := lv_entry ([.ref (q 0), .int x]) (n := 2) (Nat.le_of_ble_eq_true rfl)
  rw [lg_entry_eq]
  generalize (lg_sl ([.ref (q 0), .int x]) ++ List.replicate (2 - (lg_sl ([.ref (q 0), .int x])).length) Slot.unset).toArray = ls at hl ⊢
  have hl : lv_has ls 2 [(0, .ref (q 0)), (1, .int x)] := hl
  generalize hHe : s.heap = H at hP ⊢
  have hS := hS0 H hHe
  refine lv_aload_n hx hb dX2_go_0 rfl (lv_at hl 0 rfl) ?_
  refine lv_iload_n hx hb dX2_go_1 rfl (lv_at hl 1 rfl) ?_
  have hPc := hP.sub (ws' := (cm q ca C f n w d st tg hi mi go)) [0, 1, 2, 3, 4, 5] rfl
  have hDc := hD.sub (ws' := (cm q ca C f n w d st tg hi mi go)) [0, 1, 2, 3, 4, 5] (by decide) rfl
  have hKc := hK.sub (tys' := (km ca)) [0, 1, 2, 3, 4] rfl
  have hFc := va_free (wc := (cm q ca C f n w d st tg hi mi go)) hD hS hA [0, 1, 2, 3, 4, 5] rfl
  refine va_callv (va_runV (As := [.int x]) (rest := []) ⟨hx, hb, hml, hown, hts⟩ (c_M_clean l dC dI q ca C f n w d st tg hi mi go L x H.size hfm hx64) (cwV 1 hts gX2_go_X2_clean rfl rfl rfl (by decide +kernel) ⟨Nat.le_of_ble_eq_true rfl, Nat.le_of_ble_eq_true rfl⟩) ⟨fun a U g mk q => by obtain ⟨q0, q1, qP, qK, qD⟩ := q; exact ⟨q0, q1, qP, va_K.moved (u := U) (U := U.calling g mk a) (Vm.Alike.refl U.vm) qK, qD⟩, va_recv hKc hPc (ci := 2) (q0 := 0) rfl rfl, fun U hU hW => ⟨rfl, by rw [hU], by rw [hU]; exact hPc, va_K.moved hW.alike hKc, hDc.weaken (fun _ _ _ _ => trivial)⟩⟩ rfl rfl hl.1 rfl (lv_room (Nat.le_of_ble_eq_true rfl)) dX2_go_2 ⟨Nat.le_of_ble_eq_true rfl, Nat.le_of_ble_eq_true rfl⟩) hS (fun q _ h => hFc q h) hFc (fun u t H1 locs ht hvm hw hB hz1 hk1 hS => ?_)
  obtain ⟨L1, w1, d1, st1, tg1, hi1, mi1, go1⟩ := u
  obtain ⟨f1, n1, hf1, hP1, hK1, hD1⟩ := hB
  rw [ht] at hP1
  cases hw
  obtain ⟨f_1, ef_1⟩ : ∃ z, z = f1 := ⟨_, rfl⟩
  rw [← ef_1] at hf1 hP1 hD1
  clear ef_1 f1
  obtain ⟨n_2, en_2⟩ : ∃ z, z = n1 := ⟨_, rfl⟩
  rw [← en_2] at hf1 hP1 hD1
  clear en_2 n1
  have hfm_3 := hf1
  obtain ⟨hP, hD⟩ := va_join (wr := []) (w1 := (cm q ca C f_1 n_2 w (ap_cd d x) (ap_cs w d st x) tg hi mi go)) hP hD [0, 1, 2, 3, 4, 5] [] rfl rfl (by decide) (by decide) hk1 hFc hP1 hD1
  generalize H1 = H at hP hS ⊢
  replace hP : va_P (dC, dI) vwCl (cm q ca C f_1 n_2 w (ap_cd d x) (ap_cs w d st x) tg hi mi go) H := hP
  replace hD : va_D A (cm q ca C f_1 n_2 w (ap_cd d x) (ap_cs w d st x) tg hi mi go) := hD
  refine lv_aload_n hx hb dX2_go_5 rfl (lv_at hl 0 rfl) ?_
  refine lv_dup hx hb dX2_go_6 rfl ?_
  refine va_get (D := (dC, dI)) (ci := 2) (v := .int go) (C := RX2) (T := TX2) (N := 10) hx hb hts hwX2 hown hK hP 0 rfl rfl 9 (by decide) (hts (.fieldLink RX2 39 "ArcCacheModel" "gone" "I") (by decide +kernel)) (fun _ h9 => h9) rfl dX2_go_7 ?_
  refine lv_iconst (v := nI 1) hx hb dX2_go_10 (by decide) ?_
  refine lv_iadd hx hb dX2_go_11 ?_
  refine va_put (D := (dC, dI)) (ci := 2) (v := .int (go + (nI 1))) (ty := .int) (C := RX2) (T := TX2) (N := 10) hx hb hts hwX2 tyX2 tyX2_ok nmX2 hown hK hP hD hS 0 rfl rfl 9 (by decide) (hts (.fieldLink RX2 39 "ArcCacheModel" "gone" "I") (by decide +kernel)) (fun _ h9 => h9) rfl (by decide +kernel) rfl rfl (Nat.le_of_ble_eq_true rfl) dX2_go_12 (fun H locs hP hD hS => ?_)
  replace hP : va_P (dC, dI) vwCl (cm q ca C f_1 n_2 w (ap_cd d x) (ap_cs w d st x) tg hi mi (go + (nI 1))) H := hP
  replace hD : va_D A (cm q ca C f_1 n_2 w (ap_cd d x) (ap_cs w d st x) tg hi mi (go + (nI 1))) := hD
  exact W.vret hx hb hr (fun t ht hW => ⟨⟨(L, w, ap_cd d x, ap_cs w d st x, tg, hi, mi, go + (nI 1)), rfl, rfl, f_1, n_2, hfm_3, by rw [ht]; exact hP, va_K.moved hW.alike hK, hD⟩, hS.F ht⟩) hS.2.2 dX2_go_15
set_option maxHeartbeats 4000000 in
set_option maxRecDepth 100000 in
theorem c_M_leave (l : Launch) (dC : Nat → ClassId) (dI : Nat → Nat → Nat) (q : Nat → Nat) (ca : Nat → ClassId) (C : Nat) (f n w d st : Nat → Int32) (tg : Nat) (hi mi go : Int32) (L : Nat → List Int32) (x : Int32) (sz : Nat) (hfm : fm_ok f n L) (hI : ap_inv L) (hz : ap_tot L ≤ 48) : Met l yX2_leave wsX2_leave ({ frames := 1, cells := 0, slots := 0, locals := 24 }) (va_Pc [.ref (q 0), .int x] (fun U => U.heap.size = sz ∧ va_P (dC, dI) vwCl (cm q ca C f n w d st tg hi mi go) U.heap ∧ va_K (dC, dI) vwCl (km ca) U ∧ va_D (fun _ => True) (cm q ca C f n w d st tg hi mi go))) (va_Qv (fun (u : ap_U) => u = (ap_leave L x, w, d, st, tg, hi, mi, go)) (at_M dC dI (va_A (cm q ca C f n w d st tg hi mi go) sz) q ca C) (va_A (cm q ca C f n w d st tg hi mi go) sz)) 0 0 (va_A (cm q ca C f n w d st tg hi mi go) sz) := by
  refine Met.ofW (cc := cX2_leave) (maxL := 4) (ret := none) (by decide) rfl ?_
  intro p e s m args below meth c s₁ B hml hv
  obtain ⟨rfl, hsz, hP, hK, hD0⟩ := hv
  have hx := B.exec
  have hb := B.bytes
  have hr := B.returns
  have hts := atoms_spec (ws := wsX2_leave) B.pre
  have hown : s.vm.findClass RX2 = some m.cls := findClass_of_methodNamed B.named
  have hlocks := B.notSynchronized
  have hwX2 : ∀ w ∈ u_ws RX2 TX2 10, w ∈ wsX2_leave := by decide +kernel
  subst hsz
  have hD := hD0.self (sz := s.heap.size)
  generalize hAe : va_A (cm q ca C f n w d st tg hi mi go) s.heap.size = A at hD ⊢
  have hA : ∀ q : Nat, s.heap.size ≤ q → A q := fun q h => by rw [← hAe]; exact Or.inr h
  have hS0 : ∀ H, s.heap = H → va_S A s.heap H [] := fun H h => by subst h; exact va_S.rf
  have hl := lv_entry ([.ref (q 0), .int x]) (n := 4) (Nat.le_of_ble_eq_true rfl)
  rw [lg_entry_eq]
  generalize (lg_sl ([.ref (q 0), .int x]) ++ List.replicate (4 - (lg_sl ([.ref (q 0), .int x])).length) Slot.unset).toArray = ls at hl ⊢
  have hl : lv_has ls 4 [(0, .ref (q 0)), (1, .int x)] := hl
  generalize hHe : s.heap = H at hP ⊢
  have hS := hS0 H hHe
  have hza := ap_z_all hz
  have hwle9 := ap_wl_le L x
  refine lv_aload_n hx hb dX2_leave_0 rfl (lv_at hl 0 rfl) ?_
  refine lv_iload_n hx hb dX2_leave_1 rfl (lv_at hl 1 rfl) ?_
  have hPc := hP.sub (ws' := (cm q ca C f n w d st tg hi mi go)) [0, 1, 2, 3, 4, 5] rfl
  have hDc := hD.sub (ws' := (cm q ca C f n w d st tg hi mi go)) [0, 1, 2, 3, 4, 5] (by decide) rfl
  have hKc := hK.sub (tys' := (km ca)) [0, 1, 2, 3, 4] rfl
  have hFc := va_free (wc := (cm q ca C f n w d st tg hi mi go)) hD hS hA [0, 1, 2, 3, 4, 5] rfl
  refine va_calli (va_runV (As := [.int x]) (rest := []) ⟨hx, hb, hml, hown, hts⟩ (c_M_whichList l dC dI q ca C f n w d st tg hi mi go L x H.size hfm hI hz) (cwV 1 hts gX2_leave_X2_whichList rfl rfl rfl (by decide +kernel) ⟨Nat.le_of_ble_eq_true rfl, Nat.le_of_ble_eq_true rfl⟩) ⟨fun a U g mk q => by obtain ⟨q0, q1, qP, qK, qD⟩ := q; exact ⟨q0, q1, qP, va_K.moved (u := U) (U := U.calling g mk a) (Vm.Alike.refl U.vm) qK, qD⟩, va_recv hKc hPc (ci := 2) (q0 := 0) rfl rfl, fun U hU hW => ⟨rfl, by rw [hU], by rw [hU]; exact hPc, va_K.moved hW.alike hKc, hDc.weaken (fun _ _ _ _ => trivial)⟩⟩ rfl rfl hl.1 rfl (lv_room (Nat.le_of_ble_eq_true rfl)) dX2_leave_2 ⟨Nat.le_of_ble_eq_true rfl, Nat.le_of_ble_eq_true rfl⟩) hS (fun q _ h => hFc q h) hFc (fun r u t H1 locs ht hvm hw hB hz1 hk1 hS => ?_)
  obtain ⟨L1, w1, d1, st1, tg1, hi1, mi1, go1⟩ := u
  obtain ⟨f1, n1, hf1, hP1, hK1, hD1⟩ := hB
  rw [ht] at hP1
  obtain ⟨hr9, hw⟩ := hw
  cases hw
  obtain ⟨f_1, ef_1⟩ : ∃ z, z = f1 := ⟨_, rfl⟩
  rw [← ef_1] at hf1 hP1 hD1
  clear ef_1 f1
  obtain ⟨n_2, en_2⟩ : ∃ z, z = n1 := ⟨_, rfl⟩
  rw [← en_2] at hf1 hP1 hD1
  clear en_2 n1
  have hfm_3 := hf1
  obtain ⟨hP, hD⟩ := va_join (wr := []) (w1 := (cm q ca C f_1 n_2 w d st tg hi mi go)) hP hD [0, 1, 2, 3, 4, 5] [] rfl rfl (by decide) (by decide) hk1 hFc hP1 hD1
  generalize H1 = H at hP hS ⊢
  replace hP : va_P (dC, dI) vwCl (cm q ca C f_1 n_2 w d st tg hi mi go) H := hP
  replace hD : va_D A (cm q ca C f_1 n_2 w d st tg hi mi go) := hD
  subst hr9
  refine lv_istore_n (lv' := [(2, .int (nI (ap_wl L x))), (0, .ref (q 0)), (1, .int x)]) hx hb dX2_leave_5 rfl hl (by decide) rfl (fun ls hl => ?_)
  refine lv_iload_n hx hb dX2_leave_6 rfl (lv_at hl 0 rfl) ?_
  refine lv_if_le (tgt := 76) hx hb dX2_leave_7 (by decide) (fun c_7 => ?_) (fun c_7 => ?_)
  · skip
    replace c_7 : (ap_wl L x) ≤ 0 := (nI_leI (a := ap_wl L x) (b := 0) (by omega) (by omega)).mp c_7
    have hw09 : ap_wl L x = 0 := by omega
    have hfin9 : (L, w, d, st, tg, hi, mi, go) = (ap_leave L x, w, d, st, tg, hi, mi, go) := by rw [ap_leave_0 hw09]
    exact W.vret hx hb hr (fun t ht hW => ⟨⟨(L, w, d, st, tg, hi, mi, go), rfl, hfin9, f_1, n_2, hfm_3, by rw [ht]; exact hP, va_K.moved hW.alike hK, hD⟩, hS.F ht⟩) hS.2.2 dX2_leave_76
  · skip
    replace c_7 : ¬ ((ap_wl L x) ≤ 0) := fun h9 => c_7 ((nI_leI (a := ap_wl L x) (b := 0) (by omega) (by omega)).mpr h9)
    have hm9 : x ∈ L (ap_wl L x) := ap_wl_mem (by omega)
    obtain ⟨k, ek9⟩ : ∃ k, ap_wl L x = k := ⟨_, rfl⟩
    rw [ek9] at hl hm9 c_7 hwle9
    have hka : 1 ≤ k := by omega
    have hkb : k ≤ 4 := hwle9
    have hzk := hza k hka hkb
    obtain ⟨p9, hp9, hx9⟩ := ar_of (hfm_3 k hka hkb).2 hm9
    replace hx9 : f_1 (64 * k + p9) = x := hx9
    refine lv_bipush (v := nI 64) hx hb dX2_leave_10 (by decide) ?_
    refine lv_iload_n hx hb dX2_leave_12 rfl (lv_at hl 0 rfl) ?_
    refine lv_imul hx hb dX2_leave_13 ?_
    refine lv_topi (fun x_4 e_x_4 => ?_)
    have e_x_4 : x_4 = nI (64 * k) := by rw [e_x_4]; exact pk_mul _ _
    subst e_x_4
    refine lv_istore_n (lv' := [(3, .int (nI (64 * k))), (2, .int (nI k)), (0, .ref (q 0)), (1, .int x)]) hx hb dX2_leave_14 rfl hl (by decide) rfl (fun ls hl => ?_)
    replace hl : lv_has ls 4 [(3, .int (nI (64 * k + 0))), (2, .int (nI k)), (0, .ref (q 0)), (1, .int x)] := hl
    have loopa : ∀ (k9 : Nat) (j : Nat) (ls : Array Slot) (H : Heap) (locs : List Loc), (j ≤ p9) → lv_has ls 4 [(0, .ref (q 0)), (1, .int x), (2, .int (nI k)), (3, .int (nI (64 * k + j)))] → va_P (dC, dI) vwCl (cm q ca C f_1 n_2 w d st tg hi mi go) H → va_D A (cm q ca C f_1 n_2 w d st tg hi mi go) → va_S A s.heap H locs → p9 + 1 ≤ j + k9 → W p l e (headSpec wsX2_leave ({ frames := 1, cells := 0, slots := 0, locals := 24 })).room s m ([.ref (q 0), .int x] : List Value).toArray below meth c H locs 0 0 (MQ below (va_Qv (fun (u : ap_U) => u = (ap_leave L x, w, d, st, tg, hi, mi, go)) (at_M dC dI A q ca C) A) ([.ref (q 0), .int x] : List Value).toArray s 0 0 A) (F0 m 15 ls []) := by
      intro k9
      induction k9 with
      | zero => intro j ls H locs hjp hl hP hD hS hk; exact absurd hk (by omega)
      | succ k9 ih =>
        intro j ls H locs hjp hl hP hD hS hk
        refine lv_aload_n hx hb dX2_leave_15 rfl (lv_at hl 0 rfl) ?_
        refine va_get (D := (dC, dI)) (ci := 2) (v := .ref (q 1)) (C := RX2) (T := TX2) (N := 10) hx hb hts hwX2 hown hK hP 0 rfl rfl 1 (by decide) (hts (.fieldLink RX2 7 "ArcCacheModel" "lists" "[I") (by decide +kernel)) (fun _ h9 => h9) rfl dX2_leave_16 ?_
        refine lv_iload_n hx hb dX2_leave_19 rfl (lv_at hl 3 rfl) ?_
        refine va_iald hx hb hK hP 1 0 rfl rfl (vp_in_nI (show 64 * k + j < 320 by omega) (by decide)) dX2_leave_20 ?_
        refine lv_topi (fun x_6 e_x_6 => ?_)
        have e_x_6 : x_6 = f_1 (64 * k + j) := by rw [e_x_6]; rw [nI_clamp (by omega)]
        subst e_x_6
        refine lv_iload_n hx hb dX2_leave_21 rfl (lv_at hl 1 rfl) ?_
        refine lv_icmp_eq (tgt := 31) hx hb dX2_leave_22 (by decide) (fun c_22 => ?_) (fun c_22 => ?_)
        · skip
          have hjl : j < (L k).length := by omega
          have hfm9 := fm_rm (x := x) hfm_3 hI hza hka hkb hjl c_22
          have hfin9 : (va_up L k (ap_rm x (L k)), w, d, st, tg, hi, mi, go) = (ap_leave L x, w, d, st, tg, hi, mi, go) := by rw [ap_leave_1 ek9 hka]
          refine lv_aload_n hx hb dX2_leave_31 rfl (lv_at hl 0 rfl) ?_
          refine va_get (D := (dC, dI)) (ci := 2) (v := .ref (q 2)) (C := RX2) (T := TX2) (N := 10) hx hb hts hwX2 hown hK hP 0 rfl rfl 2 (by decide) (hts (.fieldLink RX2 13 "ArcCacheModel" "many" "[I") (by decide +kernel)) (fun _ h9 => h9) rfl dX2_leave_32 ?_
          refine lv_iload_n hx hb dX2_leave_35 rfl (lv_at hl 2 rfl) ?_
          refine lv_dup2_11 hx hb dX2_leave_36 rfl rfl ?_
          refine va_iald hx hb hK hP 2 1 rfl rfl (vp_in_nI (show k < 5 by omega) (by decide)) dX2_leave_37 ?_
          refine lv_topi (fun x_8 e_x_8 => ?_)
          have e_x_8 : x_8 = n_2 k := by rw [e_x_8]; rw [nI_clamp (by omega)]
          subst e_x_8
          refine lv_topi (fun x_9 e_x_9 => ?_)
          have e_x_9 : x_9 = nI ((L k).length) := by rw [e_x_9]; exact (hfm_3 k hka hkb).1
          subst e_x_9
          refine lv_iconst (v := nI 1) hx hb dX2_leave_38 (by decide) ?_
          refine lv_isub hx hb dX2_leave_39 ?_
          refine lv_topi (fun x_10 e_x_10 => ?_)
          have e_x_10 : x_10 = nI (((L k).length) - 1) := by rw [e_x_10]; exact pk_sub (by omega)
          subst e_x_10
          refine va_iast hx hb hK hP hD hS 2 1 rfl rfl (vp_in_nI (show k < 5 by omega) (by decide)) dX2_leave_40 (fun H locs hP hD hS => ?_)
          rw [nI_clamp (show k < 2 ^ 31 by omega)] at hP hD
          replace hP : va_P (dC, dI) vwCl (cm q ca C f_1 (upd n_2 k (nI (((L k).length) - 1))) w d st tg hi mi go) H := hP
          replace hD : va_D A (cm q ca C f_1 (upd n_2 k (nI (((L k).length) - 1))) w d st tg hi mi go) := hD
          rw [← ap_sh_0 (f := f_1) (lo := 64 * k + j)] at hP hD
          have loopb : ∀ (k8 : Nat) (i : Nat) (ls : Array Slot) (H : Heap) (locs : List Loc), (j ≤ i) → (i ≤ (L k).length - 1) → lv_has ls 4 [(0, .ref (q 0)), (1, .int x), (2, .int (nI k)), (3, .int (nI (64 * k + i)))] → va_P (dC, dI) vwCl (cm q ca C (ap_sh f_1 (64 * k + j) (64 * k + i)) (upd n_2 k (nI (((L k).length) - 1))) w d st tg hi mi go) H → va_D A (cm q ca C (ap_sh f_1 (64 * k + j) (64 * k + i)) (upd n_2 k (nI (((L k).length) - 1))) w d st tg hi mi go) → va_S A s.heap H locs → (L k).length ≤ i + k8 → W p l e (headSpec wsX2_leave ({ frames := 1, cells := 0, slots := 0, locals := 24 })).room s m ([.ref (q 0), .int x] : List Value).toArray below meth c H locs 0 0 (MQ below (va_Qv (fun (u : ap_U) => u = (ap_leave L x, w, d, st, tg, hi, mi, go)) (at_M dC dI A q ca C) A) ([.ref (q 0), .int x] : List Value).toArray s 0 0 A) (F0 m 41 ls []) := by
            intro k8
            induction k8 with
            | zero => intro i ls H locs hji hil hl hP hD hS hk; exact absurd hk (by omega)
            | succ k8 ih =>
              intro i ls H locs hji hil hl hP hD hS hk
              refine lv_iload_n hx hb dX2_leave_41 rfl (lv_at hl 3 rfl) ?_
              refine lv_bipush (v := nI 64) hx hb dX2_leave_42 (by decide) ?_
              refine lv_iload_n hx hb dX2_leave_44 rfl (lv_at hl 2 rfl) ?_
              refine lv_imul hx hb dX2_leave_45 ?_
              refine lv_topi (fun x_11 e_x_11 => ?_)
              have e_x_11 : x_11 = nI (64 * k) := by rw [e_x_11]; exact pk_mul _ _
              subst e_x_11
              refine lv_aload_n hx hb dX2_leave_46 rfl (lv_at hl 0 rfl) ?_
              refine va_get (D := (dC, dI)) (ci := 2) (v := .ref (q 2)) (C := RX2) (T := TX2) (N := 10) hx hb hts hwX2 hown hK hP 0 rfl rfl 2 (by decide) (hts (.fieldLink RX2 13 "ArcCacheModel" "many" "[I") (by decide +kernel)) (fun _ h9 => h9) rfl dX2_leave_47 ?_
              refine lv_iload_n hx hb dX2_leave_50 rfl (lv_at hl 2 rfl) ?_
              refine va_iald hx hb hK hP 2 1 rfl rfl (vp_in_nI (show k < 5 by omega) (by decide)) dX2_leave_51 ?_
              refine lv_topi (fun x_12 e_x_12 => ?_)
              have e_x_12 : x_12 = nI ((L k).length - 1) := by rw [e_x_12]; rw [nI_clamp (by omega), pk_us]
              subst e_x_12
              refine lv_iadd hx hb dX2_leave_52 ?_
              refine lv_topi (fun x_13 e_x_13 => ?_)
              have e_x_13 : x_13 = nI ((64 * k) + ((L k).length - 1)) := by rw [e_x_13]; exact nI_add _ _
              subst e_x_13
              refine lv_icmp_ge (tgt := 76) hx hb dX2_leave_53 (by decide) (fun c_53 => ?_) (fun c_53 => ?_)
              · skip
                replace c_53 : ((64 * k) + ((L k).length - 1)) ≤ (64 * k + i) := (nI_leI (a := (64 * k) + ((L k).length - 1)) (b := 64 * k + i) (by omega) (by omega)).mp c_53
                have ei9 : i = (L k).length - 1 := by omega
                subst ei9
                exact W.vret hx hb hr (fun t ht hW => ⟨⟨(va_up L k (ap_rm x (L k)), w, d, st, tg, hi, mi, go), rfl, hfin9, ap_sh f_1 (64 * k + j) (64 * k + ((L k).length - 1)), upd n_2 k (nI (((L k).length) - 1)), hfm9, by rw [ht]; exact hP, va_K.moved hW.alike hK, hD⟩, hS.F ht⟩) hS.2.2 dX2_leave_76
              · skip
                replace c_53 : ¬ (((64 * k) + ((L k).length - 1)) ≤ (64 * k + i)) := fun h9 => c_53 ((nI_leI (a := (64 * k) + ((L k).length - 1)) (b := 64 * k + i) (by omega) (by omega)).mpr h9)
                refine lv_aload_n hx hb dX2_leave_56 rfl (lv_at hl 0 rfl) ?_
                refine va_get (D := (dC, dI)) (ci := 2) (v := .ref (q 1)) (C := RX2) (T := TX2) (N := 10) hx hb hts hwX2 hown hK hP 0 rfl rfl 1 (by decide) (hts (.fieldLink RX2 7 "ArcCacheModel" "lists" "[I") (by decide +kernel)) (fun _ h9 => h9) rfl dX2_leave_57 ?_
                refine lv_iload_n hx hb dX2_leave_60 rfl (lv_at hl 3 rfl) ?_
                refine lv_aload_n hx hb dX2_leave_61 rfl (lv_at hl 0 rfl) ?_
                refine va_get (D := (dC, dI)) (ci := 2) (v := .ref (q 1)) (C := RX2) (T := TX2) (N := 10) hx hb hts hwX2 hown hK hP 0 rfl rfl 1 (by decide) (hts (.fieldLink RX2 7 "ArcCacheModel" "lists" "[I") (by decide +kernel)) (fun _ h9 => h9) rfl dX2_leave_62 ?_
                refine lv_iload_n hx hb dX2_leave_65 rfl (lv_at hl 3 rfl) ?_
                refine lv_iconst (v := nI 1) hx hb dX2_leave_66 (by decide) ?_
                refine lv_iadd hx hb dX2_leave_67 ?_
                refine lv_topi (fun x_14 e_x_14 => ?_)
                have e_x_14 : x_14 = nI ((64 * k + i) + 1) := by rw [e_x_14]; exact nI_add _ _
                subst e_x_14
                refine va_iald hx hb hK hP 1 0 rfl rfl (vp_in_nI (show (64 * k + i) + 1 < 320 by omega) (by decide)) dX2_leave_68 ?_
                refine lv_topi (fun x_16 e_x_16 => ?_)
                have e_x_16 : x_16 = (ap_sh f_1 (64 * k + j) (64 * k + i)) ((64 * k + i) + 1) := by rw [e_x_16]; rw [nI_clamp (by omega)]
                subst e_x_16
                refine va_iast hx hb hK hP hD hS 1 0 rfl rfl (vp_in_nI (show 64 * k + i < 320 by omega) (by decide)) dX2_leave_69 (fun H locs hP hD hS => ?_)
                rw [nI_clamp (show 64 * k + i < 2 ^ 31 by omega)] at hP hD
                replace hP : va_P (dC, dI) vwCl (cm q ca C (upd (ap_sh f_1 (64 * k + j) (64 * k + i)) (64 * k + i) ((ap_sh f_1 (64 * k + j) (64 * k + i)) ((64 * k + i) + 1))) (upd n_2 k (nI (((L k).length) - 1))) w d st tg hi mi go) H := hP
                replace hD : va_D A (cm q ca C (upd (ap_sh f_1 (64 * k + j) (64 * k + i)) (64 * k + i) ((ap_sh f_1 (64 * k + j) (64 * k + i)) ((64 * k + i) + 1))) (upd n_2 k (nI (((L k).length) - 1))) w d st tg hi mi go) := hD
                refine lv_iinc (v := nI (64 * k + i + 1)) (lv' := [(3, .int (nI (64 * k + i + 1))), (0, .ref (q 0)), (1, .int x), (2, .int (nI k))]) hx hb dX2_leave_70 hl (k := 3) rfl (nI_add _ _) (by decide) rfl (fun ls hl => ?_)
                refine lv_goto (tgt := 41) hx hb dX2_leave_73 (by decide) ?_
                replace hP : va_P (dC, dI) vwCl (cm q ca C (ap_sh f_1 (64 * k + j) (64 * k + i + 1)) (upd n_2 k (nI (((L k).length) - 1))) w d st tg hi mi go) H := by rw [← ap_sh_s (show 64 * k + j ≤ 64 * k + i by omega)]; exact hP
                replace hD : va_D A (cm q ca C (ap_sh f_1 (64 * k + j) (64 * k + i + 1)) (upd n_2 k (nI (((L k).length) - 1))) w d st tg hi mi go) := by rw [← ap_sh_s (show 64 * k + j ≤ 64 * k + i by omega)]; exact hD
                replace hl : lv_has ls 4 [(3, .int (nI (64 * k + (i + 1)))), (0, .ref (q 0)), (1, .int x), (2, .int (nI k))] := hl
                exact ih (i + 1) _ _ _ (by omega) (by omega) (lv_sub hl [1, 2, 3, 0] rfl) hP hD hS (by omega)
          exact loopb ((L k).length) j ls H _ (Nat.le_refl _) (by omega) (lv_sub hl [0, 1, 2, 3] rfl) hP hD hS (by omega)
        · skip
          refine lv_iinc (v := nI (64 * k + j + 1)) (lv' := [(3, .int (nI (64 * k + j + 1))), (0, .ref (q 0)), (1, .int x), (2, .int (nI k))]) hx hb dX2_leave_25 hl (k := 3) rfl (nI_add _ _) (by decide) rfl (fun ls hl => ?_)
          refine lv_goto (tgt := 15) hx hb dX2_leave_28 (by decide) ?_
          replace hl : lv_has ls 4 [(3, .int (nI (64 * k + (j + 1)))), (0, .ref (q 0)), (1, .int x), (2, .int (nI k))] := hl
          have hne9 : j ≠ p9 := fun e9 => c_22 (by subst e9; exact hx9)
          exact ih (j + 1) _ _ _ (by omega) (lv_sub hl [1, 2, 3, 0] rfl) hP hD hS (by omega)
    exact loopa (p9 + 1) 0 ls H _ (Nat.zero_le _) (lv_sub hl [2, 3, 1, 0] rfl) hP hD hS (by omega)
set_option maxHeartbeats 4000000 in
set_option maxRecDepth 100000 in
theorem c_M_come (l : Launch) (dC : Nat → ClassId) (dI : Nat → Nat → Nat) (q : Nat → Nat) (ca : Nat → ClassId) (C : Nat) (f n w d st : Nat → Int32) (tg : Nat) (hi mi go : Int32) (L : Nat → List Int32) (x : Int32) (k : Nat) (sz : Nat) (hfm : fm_ok f n L) (hI : ap_inv L) (hz : ap_tot L ≤ 48) (hka : 1 ≤ k) (hkb : k ≤ 4) : Met l yX2_come wsX2_come ({ frames := 2, cells := 0, slots := 0, locals := 47 }) (va_Pc [.ref (q 0), .int x, .int (nI k)] (fun U => U.heap.size = sz ∧ va_P (dC, dI) vwCl (cm q ca C f n w d st tg hi mi go) U.heap ∧ va_K (dC, dI) vwCl (km ca) U ∧ va_D (fun _ => True) (cm q ca C f n w d st tg hi mi go))) (va_Qv (fun (u : ap_U) => u = (va_up (ap_leave L x) k (x :: ap_leave L x k), w, d, st, tg, hi, mi, go)) (at_M dC dI (va_A (cm q ca C f n w d st tg hi mi go) sz) q ca C) (va_A (cm q ca C f n w d st tg hi mi go) sz)) 0 0 (va_A (cm q ca C f n w d st tg hi mi go) sz) := by
  refine Met.ofW (cc := cX2_come) (maxL := 4) (ret := none) (by decide) rfl ?_
  intro p e s m args below meth c s₁ B hml hv
  obtain ⟨rfl, hsz, hP, hK, hD0⟩ := hv
  have hx := B.exec
  have hb := B.bytes
  have hr := B.returns
  have hts := atoms_spec (ws := wsX2_come) B.pre
  have hown : s.vm.findClass RX2 = some m.cls := findClass_of_methodNamed B.named
  have hlocks := B.notSynchronized
  have hwX2 : ∀ w ∈ u_ws RX2 TX2 10, w ∈ wsX2_come := by decide +kernel
  subst hsz
  have hD := hD0.self (sz := s.heap.size)
  generalize hAe : va_A (cm q ca C f n w d st tg hi mi go) s.heap.size = A at hD ⊢
  have hA : ∀ q : Nat, s.heap.size ≤ q → A q := fun q h => by rw [← hAe]; exact Or.inr h
  have hS0 : ∀ H, s.heap = H → va_S A s.heap H [] := fun H h => by subst h; exact va_S.rf
  have hl := lv_entry ([.ref (q 0), .int x, .int (nI k)]) (n := 4) (Nat.le_of_ble_eq_true rfl)
  rw [lg_entry_eq]
  generalize (lg_sl ([.ref (q 0), .int x, .int (nI k)]) ++ List.replicate (4 - (lg_sl ([.ref (q 0), .int x, .int (nI k)])).length) Slot.unset).toArray = ls at hl ⊢
  have hl : lv_has ls 4 [(0, .ref (q 0)), (1, .int x), (2, .int (nI k))] := hl
  generalize hHe : s.heap = H at hP ⊢
  have hS := hS0 H hHe
  have hza := ap_z_all hz
  have hzl : ∀ i, 1 ≤ i → i ≤ 4 → (ap_leave L x i).length ≤ 48 := fun i h1 h4 => Nat.le_trans (ap_leave_len x i) (hza i h1 h4)
  have hzk := hzl k hka hkb
  refine lv_aload_n hx hb dX2_come_0 rfl (lv_at hl 0 rfl) ?_
  refine lv_iload_n hx hb dX2_come_1 rfl (lv_at hl 1 rfl) ?_
  have hPc := hP.sub (ws' := (cm q ca C f n w d st tg hi mi go)) [0, 1, 2, 3, 4, 5] rfl
  have hDc := hD.sub (ws' := (cm q ca C f n w d st tg hi mi go)) [0, 1, 2, 3, 4, 5] (by decide) rfl
  have hKc := hK.sub (tys' := (km ca)) [0, 1, 2, 3, 4] rfl
  have hFc := va_free (wc := (cm q ca C f n w d st tg hi mi go)) hD hS hA [0, 1, 2, 3, 4, 5] rfl
  refine va_callv (va_runV (As := [.int x]) (rest := []) ⟨hx, hb, hml, hown, hts⟩ (c_M_leave l dC dI q ca C f n w d st tg hi mi go L x H.size hfm hI hz) (cwV 1 hts gX2_come_X2_leave rfl rfl rfl (by decide +kernel) ⟨Nat.le_of_ble_eq_true rfl, Nat.le_of_ble_eq_true rfl⟩) ⟨fun a U g mk q => by obtain ⟨q0, q1, qP, qK, qD⟩ := q; exact ⟨q0, q1, qP, va_K.moved (u := U) (U := U.calling g mk a) (Vm.Alike.refl U.vm) qK, qD⟩, va_recv hKc hPc (ci := 2) (q0 := 0) rfl rfl, fun U hU hW => ⟨rfl, by rw [hU], by rw [hU]; exact hPc, va_K.moved hW.alike hKc, hDc.weaken (fun _ _ _ _ => trivial)⟩⟩ rfl rfl hl.1 rfl (lv_room (Nat.le_of_ble_eq_true rfl)) dX2_come_2 ⟨Nat.le_of_ble_eq_true rfl, Nat.le_of_ble_eq_true rfl⟩) hS (fun q _ h => hFc q h) hFc (fun u t H1 locs ht hvm hw hB hz1 hk1 hS => ?_)
  obtain ⟨L1, w1, d1, st1, tg1, hi1, mi1, go1⟩ := u
  obtain ⟨f1, n1, hf1, hP1, hK1, hD1⟩ := hB
  rw [ht] at hP1
  cases hw
  obtain ⟨f_1, ef_1⟩ : ∃ z, z = f1 := ⟨_, rfl⟩
  rw [← ef_1] at hf1 hP1 hD1
  clear ef_1 f1
  obtain ⟨n_2, en_2⟩ : ∃ z, z = n1 := ⟨_, rfl⟩
  rw [← en_2] at hf1 hP1 hD1
  clear en_2 n1
  have hfm_3 := hf1
  obtain ⟨hP, hD⟩ := va_join (wr := []) (w1 := (cm q ca C f_1 n_2 w d st tg hi mi go)) hP hD [0, 1, 2, 3, 4, 5] [] rfl rfl (by decide) (by decide) hk1 hFc hP1 hD1
  generalize H1 = H at hP hS ⊢
  replace hP : va_P (dC, dI) vwCl (cm q ca C f_1 n_2 w d st tg hi mi go) H := hP
  replace hD : va_D A (cm q ca C f_1 n_2 w d st tg hi mi go) := hD
  refine lv_bipush (v := nI 64) hx hb dX2_come_5 (by decide) ?_
  refine lv_iload_n hx hb dX2_come_7 rfl (lv_at hl 2 rfl) ?_
  refine lv_imul hx hb dX2_come_8 ?_
  refine lv_topi (fun x_4 e_x_4 => ?_)
  have e_x_4 : x_4 = nI (64 * k) := by rw [e_x_4]; exact pk_mul _ _
  subst e_x_4
  refine lv_aload_n hx hb dX2_come_9 rfl (lv_at hl 0 rfl) ?_
  refine va_get (D := (dC, dI)) (ci := 2) (v := .ref (q 2)) (C := RX2) (T := TX2) (N := 10) hx hb hts hwX2 hown hK hP 0 rfl rfl 2 (by decide) (hts (.fieldLink RX2 13 "ArcCacheModel" "many" "[I") (by decide +kernel)) (fun _ h9 => h9) rfl dX2_come_10 ?_
  refine lv_iload_n hx hb dX2_come_13 rfl (lv_at hl 2 rfl) ?_
  refine va_iald hx hb hK hP 2 1 rfl rfl (vp_in_nI (show k < 5 by omega) (by decide)) dX2_come_14 ?_
  refine lv_topi (fun x_6 e_x_6 => ?_)
  have e_x_6 : x_6 = n_2 k := by rw [e_x_6]; rw [nI_clamp (by omega)]
  subst e_x_6
  refine lv_topi (fun x_7 e_x_7 => ?_)
  have e_x_7 : x_7 = nI (((ap_leave L x) k).length) := by rw [e_x_7]; exact (hfm_3 k hka hkb).1
  subst e_x_7
  refine lv_iadd hx hb dX2_come_15 ?_
  refine lv_topi (fun x_8 e_x_8 => ?_)
  have e_x_8 : x_8 = nI ((64 * k) + (((ap_leave L x) k).length)) := by rw [e_x_8]; exact nI_add _ _
  subst e_x_8
  refine lv_istore_n (lv' := [(3, .int (nI ((64 * k) + (((ap_leave L x) k).length)))), (0, .ref (q 0)), (1, .int x), (2, .int (nI k))]) hx hb dX2_come_16 rfl hl (by decide) rfl (fun ls hl => ?_)
  have hfm9 := fm_add (x := x) hfm_3 hzl hka hkb
  rw [← ap_sd_0 (f := f_1) (hi := 64 * k + (ap_leave L x k).length)] at hP hD
  have loopc : ∀ (k9 : Nat) (j : Nat) (ls : Array Slot) (H : Heap) (locs : List Loc), (j ≤ (ap_leave L x k).length) → lv_has ls 4 [(0, .ref (q 0)), (1, .int x), (2, .int (nI k)), (3, .int (nI (64 * k + j)))] → va_P (dC, dI) vwCl (cm q ca C (ap_sd f_1 (64 * k + j) (64 * k + (ap_leave L x k).length)) n_2 w d st tg hi mi go) H → va_D A (cm q ca C (ap_sd f_1 (64 * k + j) (64 * k + (ap_leave L x k).length)) n_2 w d st tg hi mi go) → va_S A s.heap H locs → j + 1 ≤ k9 → W p l e (headSpec wsX2_come ({ frames := 2, cells := 0, slots := 0, locals := 47 })).room s m ([.ref (q 0), .int x, .int (nI k)] : List Value).toArray below meth c H locs 0 0 (MQ below (va_Qv (fun (u : ap_U) => u = (va_up (ap_leave L x) k (x :: ap_leave L x k), w, d, st, tg, hi, mi, go)) (at_M dC dI A q ca C) A) ([.ref (q 0), .int x, .int (nI k)] : List Value).toArray s 0 0 A) (F0 m 17 ls []) := by
    intro k9
    induction k9 with
    | zero => intro j ls H locs hjl hl hP hD hS hk; exact absurd hk (by omega)
    | succ k9 ih =>
      intro j ls H locs hjl hl hP hD hS hk
      refine lv_iload_n hx hb dX2_come_17 rfl (lv_at hl 3 rfl) ?_
      refine lv_bipush (v := nI 64) hx hb dX2_come_18 (by decide) ?_
      refine lv_iload_n hx hb dX2_come_20 rfl (lv_at hl 2 rfl) ?_
      refine lv_imul hx hb dX2_come_21 ?_
      refine lv_topi (fun x_9 e_x_9 => ?_)
      have e_x_9 : x_9 = nI (64 * k) := by rw [e_x_9]; exact pk_mul _ _
      subst e_x_9
      refine lv_icmp_le (tgt := 45) hx hb dX2_come_22 (by decide) (fun c_22 => ?_) (fun c_22 => ?_)
      · skip
        replace c_22 : (64 * k + j) ≤ (64 * k) := (nI_leI (a := 64 * k + j) (b := 64 * k) (by omega) (by omega)).mp c_22
        have ej9 : j = 0 := by omega
        subst ej9
        replace hP : va_P (dC, dI) vwCl (cm q ca C (ap_sd f_1 (64 * k) (64 * k + (ap_leave L x k).length)) n_2 w d st tg hi mi go) H := hP
        replace hD : va_D A (cm q ca C (ap_sd f_1 (64 * k) (64 * k + (ap_leave L x k).length)) n_2 w d st tg hi mi go) := hD
        refine lv_aload_n hx hb dX2_come_45 rfl (lv_at hl 0 rfl) ?_
        refine va_get (D := (dC, dI)) (ci := 2) (v := .ref (q 1)) (C := RX2) (T := TX2) (N := 10) hx hb hts hwX2 hown hK hP 0 rfl rfl 1 (by decide) (hts (.fieldLink RX2 7 "ArcCacheModel" "lists" "[I") (by decide +kernel)) (fun _ h9 => h9) rfl dX2_come_46 ?_
        refine lv_bipush (v := nI 64) hx hb dX2_come_49 (by decide) ?_
        refine lv_iload_n hx hb dX2_come_51 rfl (lv_at hl 2 rfl) ?_
        refine lv_imul hx hb dX2_come_52 ?_
        refine lv_topi (fun x_10 e_x_10 => ?_)
        have e_x_10 : x_10 = nI (64 * k) := by rw [e_x_10]; exact pk_mul _ _
        subst e_x_10
        refine lv_iload_n hx hb dX2_come_53 rfl (lv_at hl 1 rfl) ?_
        refine va_iast hx hb hK hP hD hS 1 0 rfl rfl (vp_in_nI (show 64 * k < 320 by omega) (by decide)) dX2_come_54 (fun H locs hP hD hS => ?_)
        rw [nI_clamp (show 64 * k < 2 ^ 31 by omega)] at hP hD
        replace hP : va_P (dC, dI) vwCl (cm q ca C (upd (ap_sd f_1 (64 * k) (64 * k + (ap_leave L x k).length)) (64 * k) x) n_2 w d st tg hi mi go) H := hP
        replace hD : va_D A (cm q ca C (upd (ap_sd f_1 (64 * k) (64 * k + (ap_leave L x k).length)) (64 * k) x) n_2 w d st tg hi mi go) := hD
        refine lv_aload_n hx hb dX2_come_55 rfl (lv_at hl 0 rfl) ?_
        refine va_get (D := (dC, dI)) (ci := 2) (v := .ref (q 2)) (C := RX2) (T := TX2) (N := 10) hx hb hts hwX2 hown hK hP 0 rfl rfl 2 (by decide) (hts (.fieldLink RX2 13 "ArcCacheModel" "many" "[I") (by decide +kernel)) (fun _ h9 => h9) rfl dX2_come_56 ?_
        refine lv_iload_n hx hb dX2_come_59 rfl (lv_at hl 2 rfl) ?_
        refine lv_dup2_11 hx hb dX2_come_60 rfl rfl ?_
        refine va_iald hx hb hK hP 2 1 rfl rfl (vp_in_nI (show k < 5 by omega) (by decide)) dX2_come_61 ?_
        refine lv_topi (fun x_12 e_x_12 => ?_)
        have e_x_12 : x_12 = n_2 k := by rw [e_x_12]; rw [nI_clamp (by omega)]
        subst e_x_12
        refine lv_topi (fun x_13 e_x_13 => ?_)
        have e_x_13 : x_13 = nI (((ap_leave L x) k).length) := by rw [e_x_13]; exact (hfm_3 k hka hkb).1
        subst e_x_13
        refine lv_iconst (v := nI 1) hx hb dX2_come_62 (by decide) ?_
        refine lv_iadd hx hb dX2_come_63 ?_
        refine lv_topi (fun x_14 e_x_14 => ?_)
        have e_x_14 : x_14 = nI ((((ap_leave L x) k).length) + 1) := by rw [e_x_14]; exact nI_add _ _
        subst e_x_14
        refine va_iast hx hb hK hP hD hS 2 1 rfl rfl (vp_in_nI (show k < 5 by omega) (by decide)) dX2_come_64 (fun H locs hP hD hS => ?_)
        rw [nI_clamp (show k < 2 ^ 31 by omega)] at hP hD
        replace hP : va_P (dC, dI) vwCl (cm q ca C (upd (ap_sd f_1 (64 * k) (64 * k + (ap_leave L x k).length)) (64 * k) x) (upd n_2 k (nI ((((ap_leave L x) k).length) + 1))) w d st tg hi mi go) H := hP
        replace hD : va_D A (cm q ca C (upd (ap_sd f_1 (64 * k) (64 * k + (ap_leave L x k).length)) (64 * k) x) (upd n_2 k (nI ((((ap_leave L x) k).length) + 1))) w d st tg hi mi go) := hD
        exact W.vret hx hb hr (fun t ht hW => ⟨⟨(va_up (ap_leave L x) k (x :: ap_leave L x k), w, d, st, tg, hi, mi, go), rfl, rfl, upd (ap_sd f_1 (64 * k) (64 * k + (ap_leave L x k).length)) (64 * k) x, upd n_2 k (nI ((((ap_leave L x) k).length) + 1)), hfm9, by rw [ht]; exact hP, va_K.moved hW.alike hK, hD⟩, hS.F ht⟩) hS.2.2 dX2_come_65
      · skip
        replace c_22 : ¬ ((64 * k + j) ≤ (64 * k)) := fun h9 => c_22 ((nI_leI (a := 64 * k + j) (b := 64 * k) (by omega) (by omega)).mpr h9)
        refine lv_aload_n hx hb dX2_come_25 rfl (lv_at hl 0 rfl) ?_
        refine va_get (D := (dC, dI)) (ci := 2) (v := .ref (q 1)) (C := RX2) (T := TX2) (N := 10) hx hb hts hwX2 hown hK hP 0 rfl rfl 1 (by decide) (hts (.fieldLink RX2 7 "ArcCacheModel" "lists" "[I") (by decide +kernel)) (fun _ h9 => h9) rfl dX2_come_26 ?_
        refine lv_iload_n hx hb dX2_come_29 rfl (lv_at hl 3 rfl) ?_
        refine lv_aload_n hx hb dX2_come_30 rfl (lv_at hl 0 rfl) ?_
        refine va_get (D := (dC, dI)) (ci := 2) (v := .ref (q 1)) (C := RX2) (T := TX2) (N := 10) hx hb hts hwX2 hown hK hP 0 rfl rfl 1 (by decide) (hts (.fieldLink RX2 7 "ArcCacheModel" "lists" "[I") (by decide +kernel)) (fun _ h9 => h9) rfl dX2_come_31 ?_
        refine lv_iload_n hx hb dX2_come_34 rfl (lv_at hl 3 rfl) ?_
        refine lv_iconst (v := nI 1) hx hb dX2_come_35 (by decide) ?_
        refine lv_isub hx hb dX2_come_36 ?_
        refine lv_topi (fun x_15 e_x_15 => ?_)
        have e_x_15 : x_15 = nI ((64 * k + j) - 1) := by rw [e_x_15]; exact pk_sub (by omega)
        subst e_x_15
        refine va_iald hx hb hK hP 1 0 rfl rfl (vp_in_nI (show (64 * k + j) - 1 < 320 by omega) (by decide)) dX2_come_37 ?_
        refine lv_topi (fun x_17 e_x_17 => ?_)
        have e_x_17 : x_17 = (ap_sd f_1 (64 * k + j) (64 * k + (ap_leave L x k).length)) ((64 * k + j) - 1) := by rw [e_x_17]; rw [nI_clamp (by omega)]
        subst e_x_17
        refine va_iast hx hb hK hP hD hS 1 0 rfl rfl (vp_in_nI (show 64 * k + j < 320 by omega) (by decide)) dX2_come_38 (fun H locs hP hD hS => ?_)
        rw [nI_clamp (show 64 * k + j < 2 ^ 31 by omega)] at hP hD
        replace hP : va_P (dC, dI) vwCl (cm q ca C (upd (ap_sd f_1 (64 * k + j) (64 * k + (ap_leave L x k).length)) (64 * k + j) ((ap_sd f_1 (64 * k + j) (64 * k + (ap_leave L x k).length)) ((64 * k + j) - 1))) n_2 w d st tg hi mi go) H := hP
        replace hD : va_D A (cm q ca C (upd (ap_sd f_1 (64 * k + j) (64 * k + (ap_leave L x k).length)) (64 * k + j) ((ap_sd f_1 (64 * k + j) (64 * k + (ap_leave L x k).length)) ((64 * k + j) - 1))) n_2 w d st tg hi mi go) := hD
        refine lv_iinc (v := nI (64 * k + j - 1)) (lv' := [(3, .int (nI (64 * k + j - 1))), (0, .ref (q 0)), (1, .int x), (2, .int (nI k))]) hx hb dX2_come_39 hl (k := 3) rfl (sb_m1 (by omega)) (by decide) rfl (fun ls hl => ?_)
        refine lv_goto (tgt := 17) hx hb dX2_come_42 (by decide) ?_
        have ej9 : 64 * k + j - 1 = 64 * k + (j - 1) := by omega
        have esd9 := ap_sd_s (f := f_1) (i := 64 * k + j) (hi := 64 * k + (ap_leave L x k).length) (by omega) (by omega)
        rw [ej9] at esd9 hP hD
        replace hP : va_P (dC, dI) vwCl (cm q ca C (ap_sd f_1 (64 * k + (j - 1)) (64 * k + (ap_leave L x k).length)) n_2 w d st tg hi mi go) H := by rw [← esd9]; exact hP
        replace hD : va_D A (cm q ca C (ap_sd f_1 (64 * k + (j - 1)) (64 * k + (ap_leave L x k).length)) n_2 w d st tg hi mi go) := by rw [← esd9]; exact hD
        replace hl : lv_has ls 4 [(3, .int (nI (64 * k + (j - 1)))), (0, .ref (q 0)), (1, .int x), (2, .int (nI k))] := by rw [← ej9]; exact hl
        exact ih (j - 1) _ _ _ (by omega) (lv_sub hl [1, 2, 3, 0] rfl) hP hD hS (by omega)
  exact loopc ((ap_leave L x k).length + 1) ((ap_leave L x k).length) ls H _ (Nat.le_refl _) (lv_sub hl [1, 2, 3, 0] rfl) hP hD hS (by omega)
