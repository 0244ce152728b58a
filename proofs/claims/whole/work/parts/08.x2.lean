-- THE CLASS, second part (laid by wip/gen/xx2.py)
set_option maxHeartbeats 4000000 in
set_option maxRecDepth 100000 in
theorem c_X_bringPage (l : Launch) (dC : Nat → ClassId) (dI : Nat → Nat → Nat) (q : Nat → Nat) (ca : Nat → ClassId) (C : Nat) (L : Nat → List Int32) (f : Nat → Nat → Int32) (w d st : Nat → Int32) (tg : Nat) (hi mi go : Int32) (x : Int32) (sz : Nat) (hf : fx_ok f L) (hx64 : vp_in x 64) : Met l yX1_bringPage wsX1_bringPage ({ frames := 0, cells := 0, slots := 0, locals := 0 }) (va_Pc [.ref (q 0), .int x] (fun U => U.heap.size = sz ∧ va_P (dC, dI) vwCl (cx q ca C L f w d st tg hi mi go) U.heap ∧ va_K (dC, dI) vwCl (kx ca) U ∧ va_D (fun _ => True) (cx q ca C L f w d st tg hi mi go))) (va_Qv (fun (u : ap_U) => u = (L, upd w x.toNatClampNeg (st x.toNatClampNeg), upd d x.toNatClampNeg 0, st, tg, hi, mi, go)) (at_X dC dI (va_A (cx q ca C L f w d st tg hi mi go) sz) q ca C) (va_A (cx q ca C L f w d st tg hi mi go) sz)) 0 0 (va_A (cx q ca C L f w d st tg hi mi go) sz) := by
  refine Met.ofW (cc := cX1_bringPage) (maxL := 2) (ret := none) (by decide) rfl ?_
  intro p e s m args below meth c s₁ B hml hv
  obtain ⟨rfl, hsz, hP, hK, hD0⟩ := hv
  have hx := B.exec
  have hb := B.bytes
  have hr := B.returns
  have hts := atoms_spec (ws := wsX1_bringPage) B.pre
  have hown : s.vm.findClass RX1 = some m.cls := findClass_of_methodNamed B.named
  have hlocks := B.notSynchronized
  have hwX1 : ∀ w ∈ u_ws RX1 TX1 12, w ∈ wsX1_bringPage := by decide +kernel
  subst hsz
  have hD := hD0.self (sz := s.heap.size)
  generalize hAe : va_A (cx q ca C L f w d st tg hi mi go) s.heap.size = A at hD ⊢
  have hA : ∀ q : Nat, s.heap.size ≤ q → A q := fun q h => by rw [← hAe]; exact Or.inr h
  have hS0 : ∀ H, s.heap = H → va_S A s.heap H [] := fun H h => by subst h; exact va_S.rf
  have hl := lv_entry ([.ref (q 0), .int x]) (n := 2) (Nat.le_of_ble_eq_true rfl)
  rw [lg_entry_eq]
  generalize (lg_sl ([.ref (q 0), .int x]) ++ List.replicate (2 - (lg_sl ([.ref (q 0), .int x])).length) Slot.unset).toArray = ls at hl ⊢
  have hl : lv_has ls 2 [(0, .ref (q 0)), (1, .int x)] := hl
  generalize hHe : s.heap = H at hP ⊢
  have hS := hS0 H hHe
  refine lv_aload_n hx hb dX1_bringPage_0 rfl (lv_at hl 0 rfl) ?_
  refine va_get (D := (dC, dI)) (ci := 1) (v := .ref (q 9)) (C := RX1) (T := TX1) (N := 12) hx hb hts hwX1 hown hK hP 0 rfl rfl 5 (by decide) (hts (.fieldLink RX1 25 "ArcCache" "pageWords" "[I") (by decide +kernel)) (fun _ h9 => h9) rfl dX1_bringPage_1 ?_
  refine lv_iload_n hx hb dX1_bringPage_4 rfl (lv_at hl 1 rfl) ?_
  refine lv_aload_n hx hb dX1_bringPage_5 rfl (lv_at hl 0 rfl) ?_
  refine va_get (D := (dC, dI)) (ci := 1) (v := .ref (q 11)) (C := RX1) (T := TX1) (N := 12) hx hb hts hwX1 hown hK hP 0 rfl rfl 7 (by decide) (hts (.fieldLink RX1 33 "ArcCache" "storeWords" "[I") (by decide +kernel)) (fun _ h9 => h9) rfl dX1_bringPage_6 ?_
  refine lv_iload_n hx hb dX1_bringPage_9 rfl (lv_at hl 1 rfl) ?_
  refine va_iald hx hb hK hP 11 6 rfl rfl hx64 dX1_bringPage_10 ?_
  refine va_iast hx hb hK hP hD hS 9 4 rfl rfl hx64 dX1_bringPage_11 (fun H locs hP hD hS => ?_)
  replace hP : va_P (dC, dI) vwCl (cx q ca C L f (upd w x.toNatClampNeg (st x.toNatClampNeg)) d st tg hi mi go) H := hP
  replace hD : va_D A (cx q ca C L f (upd w x.toNatClampNeg (st x.toNatClampNeg)) d st tg hi mi go) := hD
  refine lv_aload_n hx hb dX1_bringPage_12 rfl (lv_at hl 0 rfl) ?_
  refine va_get (D := (dC, dI)) (ci := 1) (v := .ref (q 10)) (C := RX1) (T := TX1) (N := 12) hx hb hts hwX1 hown hK hP 0 rfl rfl 6 (by decide) (hts (.fieldLink RX1 29 "ArcCache" "dirtyPages" "[Z") (by decide +kernel)) (fun _ h9 => h9) rfl dX1_bringPage_13 ?_
  refine lv_iload_n hx hb dX1_bringPage_16 rfl (lv_at hl 1 rfl) ?_
  refine lv_iconst (v := nI 0) hx hb dX1_bringPage_17 (by decide) ?_
  refine va_zast hx hb hK hP hD hS 10 5 rfl rfl hx64 dX1_bringPage_18 (fun H locs hP hD hS => ?_)
  rw [ap_nar0] at hP hD
  replace hP : va_P (dC, dI) vwCl (cx q ca C L f (upd w x.toNatClampNeg (st x.toNatClampNeg)) (upd d x.toNatClampNeg 0) st tg hi mi go) H := hP
  replace hD : va_D A (cx q ca C L f (upd w x.toNatClampNeg (st x.toNatClampNeg)) (upd d x.toNatClampNeg 0) st tg hi mi go) := hD
  exact W.vret hx hb hr (fun t ht hW => ⟨⟨(L, upd w x.toNatClampNeg (st x.toNatClampNeg), upd d x.toNatClampNeg 0, st, tg, hi, mi, go), rfl, rfl, f, hf, by rw [ht]; exact hP, va_K.moved hW.alike hK, hD⟩, hS.F ht⟩) hS.2.2 dX1_bringPage_19
set_option maxHeartbeats 4000000 in
set_option maxRecDepth 100000 in
theorem c_X_writeBack (l : Launch) (dC : Nat → ClassId) (dI : Nat → Nat → Nat) (q : Nat → Nat) (ca : Nat → ClassId) (C : Nat) (L : Nat → List Int32) (f : Nat → Nat → Int32) (w d st : Nat → Int32) (tg : Nat) (hi mi go : Int32) (x : Int32) (sz : Nat) (hf : fx_ok f L) (hx64 : vp_in x 64) : Met l yX1_writeBack wsX1_writeBack ({ frames := 0, cells := 0, slots := 0, locals := 0 }) (va_Pc [.ref (q 0), .int x] (fun U => U.heap.size = sz ∧ va_P (dC, dI) vwCl (cx q ca C L f w d st tg hi mi go) U.heap ∧ va_K (dC, dI) vwCl (kx ca) U ∧ va_D (fun _ => True) (cx q ca C L f w d st tg hi mi go))) (va_Qv (fun (u : ap_U) => u = (L, w, upd d x.toNatClampNeg 0, upd st x.toNatClampNeg (w x.toNatClampNeg), tg, hi, mi, go)) (at_X dC dI (va_A (cx q ca C L f w d st tg hi mi go) sz) q ca C) (va_A (cx q ca C L f w d st tg hi mi go) sz)) 0 0 (va_A (cx q ca C L f w d st tg hi mi go) sz) := by
  refine Met.ofW (cc := cX1_writeBack) (maxL := 2) (ret := none) (by decide) rfl ?_
  intro p e s m args below meth c s₁ B hml hv
  obtain ⟨rfl, hsz, hP, hK, hD0⟩ := hv
  have hx := B.exec
  have hb := B.bytes
  have hr := B.returns
  have hts := atoms_spec (ws := wsX1_writeBack) B.pre
  have hown : s.vm.findClass RX1 = some m.cls := findClass_of_methodNamed B.named
  have hlocks := B.notSynchronized
  have hwX1 : ∀ w ∈ u_ws RX1 TX1 12, w ∈ wsX1_writeBack := by decide +kernel
  subst hsz
  have hD := hD0.self (sz := s.heap.size)
  generalize hAe : va_A (cx q ca C L f w d st tg hi mi go) s.heap.size = A at hD ⊢
  have hA : ∀ q : Nat, s.heap.size ≤ q → A q := fun q h => by rw [← hAe]; exact Or.inr h
  have hS0 : ∀ H, s.heap = H → va_S A s.heap H [] := fun H h => by subst h; exact va_S.rf
  have hl := lv_entry ([.ref (q 0), .int x]) (n := 2) (Nat.le_of_ble_eq_true rfl)
  rw [lg_entry_eq]
  generalize (lg_sl ([.ref (q 0), .int x]) ++ List.replicate (2 - (lg_sl ([.ref (q 0), .int x])).length) Slot.unset).toArray = ls at hl ⊢
  have hl : lv_has ls 2 [(0, .ref (q 0)), (1, .int x)] := hl
  generalize hHe : s.heap = H at hP ⊢
  have hS := hS0 H hHe
  refine lv_aload_n hx hb dX1_writeBack_0 rfl (lv_at hl 0 rfl) ?_
  refine va_get (D := (dC, dI)) (ci := 1) (v := .ref (q 11)) (C := RX1) (T := TX1) (N := 12) hx hb hts hwX1 hown hK hP 0 rfl rfl 7 (by decide) (hts (.fieldLink RX1 33 "ArcCache" "storeWords" "[I") (by decide +kernel)) (fun _ h9 => h9) rfl dX1_writeBack_1 ?_
  refine lv_iload_n hx hb dX1_writeBack_4 rfl (lv_at hl 1 rfl) ?_
  refine lv_aload_n hx hb dX1_writeBack_5 rfl (lv_at hl 0 rfl) ?_
  refine va_get (D := (dC, dI)) (ci := 1) (v := .ref (q 9)) (C := RX1) (T := TX1) (N := 12) hx hb hts hwX1 hown hK hP 0 rfl rfl 5 (by decide) (hts (.fieldLink RX1 25 "ArcCache" "pageWords" "[I") (by decide +kernel)) (fun _ h9 => h9) rfl dX1_writeBack_6 ?_
  refine lv_iload_n hx hb dX1_writeBack_9 rfl (lv_at hl 1 rfl) ?_
  refine va_iald hx hb hK hP 9 4 rfl rfl hx64 dX1_writeBack_10 ?_
  refine va_iast hx hb hK hP hD hS 11 6 rfl rfl hx64 dX1_writeBack_11 (fun H locs hP hD hS => ?_)
  replace hP : va_P (dC, dI) vwCl (cx q ca C L f w d (upd st x.toNatClampNeg (w x.toNatClampNeg)) tg hi mi go) H := hP
  replace hD : va_D A (cx q ca C L f w d (upd st x.toNatClampNeg (w x.toNatClampNeg)) tg hi mi go) := hD
  refine lv_aload_n hx hb dX1_writeBack_12 rfl (lv_at hl 0 rfl) ?_
  refine va_get (D := (dC, dI)) (ci := 1) (v := .ref (q 10)) (C := RX1) (T := TX1) (N := 12) hx hb hts hwX1 hown hK hP 0 rfl rfl 6 (by decide) (hts (.fieldLink RX1 29 "ArcCache" "dirtyPages" "[Z") (by decide +kernel)) (fun _ h9 => h9) rfl dX1_writeBack_13 ?_
  refine lv_iload_n hx hb dX1_writeBack_16 rfl (lv_at hl 1 rfl) ?_
  refine lv_iconst (v := nI 0) hx hb dX1_writeBack_17 (by decide) ?_
  refine va_zast hx hb hK hP hD hS 10 5 rfl rfl hx64 dX1_writeBack_18 (fun H locs hP hD hS => ?_)
  rw [ap_nar0] at hP hD
  replace hP : va_P (dC, dI) vwCl (cx q ca C L f w (upd d x.toNatClampNeg 0) (upd st x.toNatClampNeg (w x.toNatClampNeg)) tg hi mi go) H := hP
  replace hD : va_D A (cx q ca C L f w (upd d x.toNatClampNeg 0) (upd st x.toNatClampNeg (w x.toNatClampNeg)) tg hi mi go) := hD
  exact W.vret hx hb hr (fun t ht hW => ⟨⟨(L, w, upd d x.toNatClampNeg 0, upd st x.toNatClampNeg (w x.toNatClampNeg), tg, hi, mi, go), rfl, rfl, f, hf, by rw [ht]; exact hP, va_K.moved hW.alike hK, hD⟩, hS.F ht⟩) hS.2.2 dX1_writeBack_19
set_option maxHeartbeats 4000000 in
set_option maxRecDepth 100000 in
theorem c_X_pageGoes (l : Launch) (dC : Nat → ClassId) (dI : Nat → Nat → Nat) (q : Nat → Nat) (ca : Nat → ClassId) (C : Nat) (L : Nat → List Int32) (f : Nat → Nat → Int32) (w d st : Nat → Int32) (tg : Nat) (hi mi go : Int32) (x : Int32) (sz : Nat) (hf : fx_ok f L) (hx64 : vp_in x 64) : Met l yX1_pageGoes wsX1_pageGoes ({ frames := 1, cells := 0, slots := 0, locals := 21 }) (va_Pc [.ref (q 0), .int x] (fun U => U.heap.size = sz ∧ va_P (dC, dI) vwCl (cx q ca C L f w d st tg hi mi go) U.heap ∧ va_K (dC, dI) vwCl (kx ca) U ∧ va_D (fun _ => True) (cx q ca C L f w d st tg hi mi go))) (va_Qv (fun (u : ap_U) => u = (L, w, ap_cd d x, ap_cs w d st x, tg, hi, mi, go + 1)) (at_X dC dI (va_A (cx q ca C L f w d st tg hi mi go) sz) q ca C) (va_A (cx q ca C L f w d st tg hi mi go) sz)) 0 0 (va_A (cx q ca C L f w d st tg hi mi go) sz) := by
  refine Met.ofW (cc := cX1_pageGoes) (maxL := 2) (ret := none) (by decide) rfl ?_
  intro p e s m args below meth c s₁ B hml hv
  obtain ⟨rfl, hsz, hP, hK, hD0⟩ := hv
  have hx := B.exec
  have hb := B.bytes
  have hr := B.returns
  have hts := atoms_spec (ws := wsX1_pageGoes) B.pre
  have hown : s.vm.findClass RX1 = some m.cls := findClass_of_methodNamed B.named
  have hlocks := B.notSynchronized
  have hwX1 : ∀ w ∈ u_ws RX1 TX1 12, w ∈ wsX1_pageGoes := by decide +kernel
  subst hsz
  have hD := hD0.self (sz := s.heap.size)
  generalize hAe : va_A (cx q ca C L f w d st tg hi mi go) s.heap.size = A at hD ⊢
  have hA : ∀ q : Nat, s.heap.size ≤ q → A q := fun q h => by rw [← hAe]; exact Or.inr h
  have hS0 : ∀ H, s.heap = H → va_S A s.heap H [] := fun H h => by subst h; exact va_S.rf
  have hl := lv_entry ([.ref (q 0), .int x]) (n := 2) (Nat.le_of_ble_eq_true rfl)
  rw [lg_entry_eq]
  generalize (lg_sl ([.ref (q 0), .int x]) ++ List.replicate (2 - (lg_sl ([.ref (q 0), .int x])).length) Slot.unset).toArray = ls at hl ⊢
  have hl : lv_has ls 2 [(0, .ref (q 0)), (1, .int x)] := hl
  generalize hHe : s.heap = H at hP ⊢
  have hS := hS0 H hHe
  refine lv_iload_n hx hb dX1_pageGoes_0 rfl (lv_at hl 1 rfl) ?_
  have hPc := hP.sub (ws' := []) [] rfl
  have hDc := hD.sub (ws' := []) [] (by decide) rfl
  have hFc := va_free (wc := []) hD hS hA [] rfl
  refine va_calli (va_runS (As := [.int x]) (rest := []) ⟨hx, hb, hml, hown, hts⟩ (c_X_isAddress l dC dI x H.size) (va_cwS 1 hts gX1_pageGoes_X1_isAddress rfl rfl rfl (by decide +kernel) ⟨Nat.le_of_ble_eq_true rfl, Nat.le_of_ble_eq_true rfl⟩) ⟨fun a U g mk q => by obtain ⟨q0, q1⟩ := q; exact ⟨q0, q1⟩, fun U hU hW => ⟨rfl, by show U.heap.size = _; rw [hU]⟩⟩ rfl rfl hl.1 rfl (lv_room (Nat.le_of_ble_eq_true rfl)) dX1_pageGoes_1 ⟨Nat.le_of_ble_eq_true rfl, Nat.le_of_ble_eq_true rfl⟩) hS (fun q _ h => hFc q h) hFc (fun r u t H1 locs ht hvm hw hB hz1 hk1 hS => ?_)
  obtain ⟨hP, hD⟩ := va_join (wr := (cx q ca C L f w d st tg hi mi go)) (w1 := []) hP hD [] [0, 1, 2, 3, 4, 5, 6, 7, 8, 9, 10, 11] rfl rfl (by decide) (by decide) hk1 hFc (fun k q h => by simp at h) ⟨fun i j p q h => by simp at h, fun k q h => by simp at h⟩
  generalize H1 = H at hP hS ⊢
  replace hP : va_P (dC, dI) vwCl (cx q ca C L f w d st tg hi mi go) H := hP
  replace hD : va_D A (cx q ca C L f w d st tg hi mi go) := hD
  by_cases hyes9 : x < 0 ∨ nI 64 ≤ x
  · rw [if_pos hyes9] at hw
    subst hw
    exact absurd hyes9 (vp_in_64.mp hx64)
  · have hno9 := hyes9
    rw [if_neg hno9] at hw
    subst hw
    refine lv_if_ne (tgt := 8) hx hb dX1_pageGoes_4 (by decide) (fun c_4 => ?_) (fun c_4 => ?_)
    · skip
      replace c_4 : ¬ (1 = 0) := fun h9 => c_4 ((nI_eq (a := 1) (b := 0) (by omega) (by omega)).mpr h9)
      refine lv_aload_n hx hb dX1_pageGoes_8 rfl (lv_at hl 0 rfl) ?_
      refine va_get (D := (dC, dI)) (ci := 1) (v := .ref (q 10)) (C := RX1) (T := TX1) (N := 12) hx hb hts hwX1 hown hK hP 0 rfl rfl 6 (by decide) (hts (.fieldLink RX1 29 "ArcCache" "dirtyPages" "[Z") (by decide +kernel)) (fun _ h9 => h9) rfl dX1_pageGoes_9 ?_
      refine lv_iload_n hx hb dX1_pageGoes_12 rfl (lv_at hl 1 rfl) ?_
      refine va_zald hx hb hK hP 10 5 rfl rfl hx64 dX1_pageGoes_13 ?_
      refine lv_if_eq (tgt := 22) hx hb dX1_pageGoes_14 (by decide) (fun c_14 => ?_) (fun c_14 => ?_)
      · skip
        refine lv_aload_n hx hb dX1_pageGoes_22 rfl (lv_at hl 0 rfl) ?_
        refine lv_dup hx hb dX1_pageGoes_23 rfl ?_
        refine va_get (D := (dC, dI)) (ci := 1) (v := .int go) (C := RX1) (T := TX1) (N := 12) hx hb hts hwX1 hown hK hP 0 rfl rfl 11 (by decide) (hts (.fieldLink RX1 64 "ArcCache" "goneCount" "I") (by decide +kernel)) (fun _ h9 => h9) rfl dX1_pageGoes_24 ?_
        refine lv_iconst (v := nI 1) hx hb dX1_pageGoes_27 (by decide) ?_
        refine lv_iadd hx hb dX1_pageGoes_28 ?_
        refine va_put (D := (dC, dI)) (ci := 1) (v := .int (go + (nI 1))) (ty := .int) (C := RX1) (T := TX1) (N := 12) hx hb hts hwX1 tyX1 tyX1_ok nmX1 hown hK hP hD hS 0 rfl rfl 11 (by decide) (hts (.fieldLink RX1 64 "ArcCache" "goneCount" "I") (by decide +kernel)) (fun _ h9 => h9) rfl (by decide +kernel) rfl rfl (Nat.le_of_ble_eq_true rfl) dX1_pageGoes_29 (fun H locs hP hD hS => ?_)
        replace hP : va_P (dC, dI) vwCl (cx q ca C L f w d st tg hi mi (go + (nI 1))) H := hP
        replace hD : va_D A (cx q ca C L f w d st tg hi mi (go + (nI 1))) := hD
        exact W.vret hx hb hr (fun t ht hW => ⟨⟨(L, w, d, st, tg, hi, mi, go + (nI 1)), rfl, by rw [ap_cd_0 c_14, ap_cs_0 c_14]; rfl, f, hf, by rw [ht]; exact hP, va_K.moved hW.alike hK, hD⟩, hS.F ht⟩) hS.2.2 dX1_pageGoes_32
      · skip
        refine lv_aload_n hx hb dX1_pageGoes_17 rfl (lv_at hl 0 rfl) ?_
        refine lv_iload_n hx hb dX1_pageGoes_18 rfl (lv_at hl 1 rfl) ?_
        have hPc := hP.sub (ws' := (cx q ca C L f w d st tg hi mi go)) [0, 1, 2, 3, 4, 5, 6, 7, 8, 9, 10, 11] rfl
        have hDc := hD.sub (ws' := (cx q ca C L f w d st tg hi mi go)) [0, 1, 2, 3, 4, 5, 6, 7, 8, 9, 10, 11] (by decide) rfl
        have hKc := hK.sub (tys' := (kx ca)) [0, 1, 2, 3, 4, 5, 6] rfl
        have hFc := va_free (wc := (cx q ca C L f w d st tg hi mi go)) hD hS hA [0, 1, 2, 3, 4, 5, 6, 7, 8, 9, 10, 11] rfl
        refine va_callv (va_runV (As := [.int x]) (rest := []) ⟨hx, hb, hml, hown, hts⟩ (c_X_writeBack l dC dI q ca C L f w d st tg hi mi go x H.size hf hx64) (cwV 1 hts gX1_pageGoes_X1_writeBack rfl rfl rfl (by decide +kernel) ⟨Nat.le_of_ble_eq_true rfl, Nat.le_of_ble_eq_true rfl⟩) ⟨fun a U g mk q => by obtain ⟨q0, q1, qP, qK, qD⟩ := q; exact ⟨q0, q1, qP, va_K.moved (u := U) (U := U.calling g mk a) (Vm.Alike.refl U.vm) qK, qD⟩, va_recv hKc hPc (ci := 1) (q0 := 0) rfl rfl, fun U hU hW => ⟨rfl, by rw [hU], by rw [hU]; exact hPc, va_K.moved hW.alike hKc, hDc.weaken (fun _ _ _ _ => trivial)⟩⟩ rfl rfl hl.1 rfl (lv_room (Nat.le_of_ble_eq_true rfl)) dX1_pageGoes_19 ⟨Nat.le_of_ble_eq_true rfl, Nat.le_of_ble_eq_true rfl⟩) hS (fun q _ h => hFc q h) hFc (fun u t H1 locs ht hvm hw hB hz1 hk1 hS => ?_)
        obtain ⟨L1, w1, d1, st1, tg1, hi1, mi1, go1⟩ := u
        obtain ⟨f1, hf1, hP1, hK1, hD1⟩ := hB
        rw [ht] at hP1
        cases hw
        obtain ⟨f_1, ef_1⟩ : ∃ z, z = f1 := ⟨_, rfl⟩
        rw [← ef_1] at hf1 hP1 hD1
        clear ef_1 f1
        have hfx_2 := hf1
        obtain ⟨hP, hD⟩ := va_join (wr := []) (w1 := (cx q ca C L f_1 w (upd d x.toNatClampNeg 0) (upd st x.toNatClampNeg (w x.toNatClampNeg)) tg hi mi go)) hP hD [0, 1, 2, 3, 4, 5, 6, 7, 8, 9, 10, 11] [] rfl rfl (by decide) (by decide) hk1 hFc hP1 hD1
        generalize H1 = H at hP hS ⊢
        replace hP : va_P (dC, dI) vwCl (cx q ca C L f_1 w (upd d x.toNatClampNeg 0) (upd st x.toNatClampNeg (w x.toNatClampNeg)) tg hi mi go) H := hP
        replace hD : va_D A (cx q ca C L f_1 w (upd d x.toNatClampNeg 0) (upd st x.toNatClampNeg (w x.toNatClampNeg)) tg hi mi go) := hD
        refine lv_aload_n hx hb dX1_pageGoes_22 rfl (lv_at hl 0 rfl) ?_
        refine lv_dup hx hb dX1_pageGoes_23 rfl ?_
        refine va_get (D := (dC, dI)) (ci := 1) (v := .int go) (C := RX1) (T := TX1) (N := 12) hx hb hts hwX1 hown hK hP 0 rfl rfl 11 (by decide) (hts (.fieldLink RX1 64 "ArcCache" "goneCount" "I") (by decide +kernel)) (fun _ h9 => h9) rfl dX1_pageGoes_24 ?_
        refine lv_iconst (v := nI 1) hx hb dX1_pageGoes_27 (by decide) ?_
        refine lv_iadd hx hb dX1_pageGoes_28 ?_
        refine va_put (D := (dC, dI)) (ci := 1) (v := .int (go + (nI 1))) (ty := .int) (C := RX1) (T := TX1) (N := 12) hx hb hts hwX1 tyX1 tyX1_ok nmX1 hown hK hP hD hS 0 rfl rfl 11 (by decide) (hts (.fieldLink RX1 64 "ArcCache" "goneCount" "I") (by decide +kernel)) (fun _ h9 => h9) rfl (by decide +kernel) rfl rfl (Nat.le_of_ble_eq_true rfl) dX1_pageGoes_29 (fun H locs hP hD hS => ?_)
        replace hP : va_P (dC, dI) vwCl (cx q ca C L f_1 w (upd d x.toNatClampNeg 0) (upd st x.toNatClampNeg (w x.toNatClampNeg)) tg hi mi (go + (nI 1))) H := hP
        replace hD : va_D A (cx q ca C L f_1 w (upd d x.toNatClampNeg 0) (upd st x.toNatClampNeg (w x.toNatClampNeg)) tg hi mi (go + (nI 1))) := hD
        exact W.vret hx hb hr (fun t ht hW => ⟨⟨(L, w, upd d x.toNatClampNeg 0, upd st x.toNatClampNeg (w x.toNatClampNeg), tg, hi, mi, go + (nI 1)), rfl, by rw [ap_cs_1 c_14]; rfl, f_1, hfx_2, by rw [ht]; exact hP, va_K.moved hW.alike hK, hD⟩, hS.F ht⟩) hS.2.2 dX1_pageGoes_32
    · skip
      replace c_4 : 1 = 0 := (nI_eq (a := 1) (b := 0) (by omega) (by omega)).mp c_4
      exact absurd c_4 (by omega)
set_option maxHeartbeats 4000000 in
set_option maxRecDepth 100000 in
theorem c_X_pageGoes0 (l : Launch) (dC : Nat → ClassId) (dI : Nat → Nat → Nat) (q : Nat → Nat) (ca : Nat → ClassId) (C : Nat) (L : Nat → List Int32) (f : Nat → Nat → Int32) (w d st : Nat → Int32) (tg : Nat) (hi mi go : Int32)  (sz : Nat) (hf : fx_ok f L) : Met l yX1_pageGoes wsX1_pageGoes ({ frames := 1, cells := 0, slots := 0, locals := 20 }) (va_Pc [.ref (q 0), .int (-1)] (fun U => U.heap.size = sz ∧ va_P (dC, dI) vwCl (cx q ca C L f w d st tg hi mi go) U.heap ∧ va_K (dC, dI) vwCl (kx ca) U ∧ va_D (fun _ => True) (cx q ca C L f w d st tg hi mi go))) (va_Qv (fun (u : ap_U) => u = (L, w, d, st, tg, hi, mi, go)) (at_X dC dI (va_A (cx q ca C L f w d st tg hi mi go) sz) q ca C) (va_A (cx q ca C L f w d st tg hi mi go) sz)) 0 0 (va_A (cx q ca C L f w d st tg hi mi go) sz) := by
  refine Met.ofW (cc := cX1_pageGoes) (maxL := 2) (ret := none) (by decide) rfl ?_
  intro p e s m args below meth c s₁ B hml hv
  obtain ⟨rfl, hsz, hP, hK, hD0⟩ := hv
  have hx := B.exec
  have hb := B.bytes
  have hr := B.returns
  have hts := atoms_spec (ws := wsX1_pageGoes) B.pre
  have hown : s.vm.findClass RX1 = some m.cls := findClass_of_methodNamed B.named
  have hlocks := B.notSynchronized
  have hwX1 : ∀ w ∈ u_ws RX1 TX1 12, w ∈ wsX1_pageGoes := by decide +kernel
  subst hsz
  have hD := hD0.self (sz := s.heap.size)
  generalize hAe : va_A (cx q ca C L f w d st tg hi mi go) s.heap.size = A at hD ⊢
  have hA : ∀ q : Nat, s.heap.size ≤ q → A q := fun q h => by rw [← hAe]; exact Or.inr h
  have hS0 : ∀ H, s.heap = H → va_S A s.heap H [] := fun H h => by subst h; exact va_S.rf
  have hl := lv_entry ([.ref (q 0), .int (-1)]) (n := 2) (Nat.le_of_ble_eq_true rfl)
  rw [lg_entry_eq]
  generalize (lg_sl ([.ref (q 0), .int (-1)]) ++ List.replicate (2 - (lg_sl ([.ref (q 0), .int (-1)])).length) Slot.unset).toArray = ls at hl ⊢
  have hl : lv_has ls 2 [(0, .ref (q 0)), (1, .int (-1))] := hl
  generalize hHe : s.heap = H at hP ⊢
  have hS := hS0 H hHe
  refine lv_iload_n hx hb dX1_pageGoes_0 rfl (lv_at hl 1 rfl) ?_
  have hPc := hP.sub (ws' := []) [] rfl
  have hDc := hD.sub (ws' := []) [] (by decide) rfl
  have hFc := va_free (wc := []) hD hS hA [] rfl
  refine va_calli (va_runS (As := [.int (-1 : Int32)]) (rest := []) ⟨hx, hb, hml, hown, hts⟩ (c_X_isAddress l dC dI (-1 : Int32) H.size) (va_cwS 1 hts gX1_pageGoes_X1_isAddress rfl rfl rfl (by decide +kernel) ⟨Nat.le_of_ble_eq_true rfl, Nat.le_of_ble_eq_true rfl⟩) ⟨fun a U g mk q => by obtain ⟨q0, q1⟩ := q; exact ⟨q0, q1⟩, fun U hU hW => ⟨rfl, by show U.heap.size = _; rw [hU]⟩⟩ rfl rfl hl.1 rfl (lv_room (Nat.le_of_ble_eq_true rfl)) dX1_pageGoes_1 ⟨Nat.le_of_ble_eq_true rfl, Nat.le_of_ble_eq_true rfl⟩) hS (fun q _ h => hFc q h) hFc (fun r u t H1 locs ht hvm hw hB hz1 hk1 hS => ?_)
  obtain ⟨hP, hD⟩ := va_join (wr := (cx q ca C L f w d st tg hi mi go)) (w1 := []) hP hD [] [0, 1, 2, 3, 4, 5, 6, 7, 8, 9, 10, 11] rfl rfl (by decide) (by decide) hk1 hFc (fun k q h => by simp at h) ⟨fun i j p q h => by simp at h, fun k q h => by simp at h⟩
  generalize H1 = H at hP hS ⊢
  replace hP : va_P (dC, dI) vwCl (cx q ca C L f w d st tg hi mi go) H := hP
  replace hD : va_D A (cx q ca C L f w d st tg hi mi go) := hD
  by_cases hyes9 : (-1 : Int32) < 0 ∨ nI 64 ≤ (-1 : Int32)
  · rw [if_pos hyes9] at hw
    subst hw
    refine lv_if_ne (tgt := 8) hx hb dX1_pageGoes_4 (by decide) (fun c_4 => ?_) (fun c_4 => ?_)
    · skip
      replace c_4 : ¬ (0 = 0) := fun h9 => c_4 ((nI_eq (a := 0) (b := 0) (by omega) (by omega)).mpr h9)
      exact absurd c_4 (by omega)
    · skip
      replace c_4 : 0 = 0 := (nI_eq (a := 0) (b := 0) (by omega) (by omega)).mp c_4
      exact W.vret hx hb hr (fun t ht hW => ⟨⟨(L, w, d, st, tg, hi, mi, go), rfl, rfl, f, hf, by rw [ht]; exact hP, va_K.moved hW.alike hK, hD⟩, hS.F ht⟩) hS.2.2 dX1_pageGoes_7
  · have hno9 := hyes9
    rw [if_neg hno9] at hw
    subst hw
    exact absurd (Or.inl (by decide)) hno9
set_option maxHeartbeats 4000000 in
set_option maxRecDepth 100000 in
theorem c_X_move1 (l : Launch) (dC : Nat → ClassId) (dI : Nat → Nat → Nat) (q : Nat → Nat) (ca : Nat → ClassId) (C : Nat) (L : Nat → List Int32) (f : Nat → Nat → Int32) (w d st : Nat → Int32) (tg : Nat) (hi mi go : Int32) (x : Int32) (sz : Nat) (hf : fx_ok f L) (hI : ap_inv L) (hz : ap_tot L ≤ 48) (hx64 : vp_in x 64) : Met l yX1_moveToCameAgain wsX1_moveToCameAgain ({ frames := 2, cells := 0, slots := 0, locals := 82 }) (va_Pc [.ref (q 0), .int x, .int (nI 1)] (fun U => U.heap.size = sz ∧ va_P (dC, dI) vwCl (cx q ca C L f w d st tg hi mi go) U.heap ∧ va_K (dC, dI) vwCl (kx ca) U ∧ va_D (fun _ => True) (cx q ca C L f w d st tg hi mi go) ∧ va_Nw (.methodLinkNest RX0 23 yX1_isAddress "ArcCache") U)) (va_Qv (fun (u : ap_U) => u = (ap_mv L x 1 2, w, d, st, tg, hi, mi, go)) (at_X dC dI (va_A (cx q ca C L f w d st tg hi mi go) sz) q ca C) (va_A (cx q ca C L f w d st tg hi mi go) sz)) 0 0 (va_A (cx q ca C L f w d st tg hi mi go) sz) := by
  refine Met.ofW (cc := cX1_moveToCameAgain) (maxL := 3) (ret := none) (by decide) rfl ?_
  intro p e s m args below meth c s₁ B hml hv
  obtain ⟨rfl, hsz, hP, hK, hD0, hN⟩ := hv
  have hx := B.exec
  have hb := B.bytes
  have hr := B.returns
  have hts := atoms_spec (ws := wsX1_moveToCameAgain) B.pre
  have hown : s.vm.findClass RX1 = some m.cls := findClass_of_methodNamed B.named
  have hlocks := B.notSynchronized
  have hwX1 : ∀ w ∈ u_ws RX1 TX1 12, w ∈ wsX1_moveToCameAgain := by decide +kernel
  subst hsz
  have hD := hD0.self (sz := s.heap.size)
  generalize hAe : va_A (cx q ca C L f w d st tg hi mi go) s.heap.size = A at hD ⊢
  have hA : ∀ q : Nat, s.heap.size ≤ q → A q := fun q h => by rw [← hAe]; exact Or.inr h
  have hS0 : ∀ H, s.heap = H → va_S A s.heap H [] := fun H h => by subst h; exact va_S.rf
  have hl := lv_entry ([.ref (q 0), .int x, .int (nI 1)]) (n := 3) (Nat.le_of_ble_eq_true rfl)
  rw [lg_entry_eq]
  generalize (lg_sl ([.ref (q 0), .int x, .int (nI 1)]) ++ List.replicate (3 - (lg_sl ([.ref (q 0), .int x, .int (nI 1)])).length) Slot.unset).toArray = ls at hl ⊢
  have hl : lv_has ls 3 [(0, .ref (q 0)), (1, .int x), (2, .int (nI 1))] := hl
  generalize hHe : s.heap = H at hP ⊢
  have hS := hS0 H hHe
  have z1 : (L 1).length ≤ 48 := by unfold ap_tot at hz; omega
  have z2 : (L 2).length ≤ 48 := by unfold ap_tot at hz; omega
  have z3 : (L 3).length ≤ 48 := by unfold ap_tot at hz; omega
  have z4 : (L 4).length ≤ 48 := by unfold ap_tot at hz; omega
  refine lv_aload_n hx hb dX1_moveToCameAgain_0 rfl (lv_at hl 0 rfl) ?_
  refine lv_iload_n hx hb dX1_moveToCameAgain_1 rfl (lv_at hl 2 rfl) ?_
  have hPc := hP.sub (ws' := (cx q ca C L f w d st tg hi mi go)) [0, 1, 2, 3, 4, 5, 6, 7, 8, 9, 10, 11] rfl
  have hDc := hD.sub (ws' := (cx q ca C L f w d st tg hi mi go)) [0, 1, 2, 3, 4, 5, 6, 7, 8, 9, 10, 11] (by decide) rfl
  have hKc := hK.sub (tys' := (kx ca)) [0, 1, 2, 3, 4, 5, 6] rfl
  have hFc := va_free (wc := (cx q ca C L f w d st tg hi mi go)) hD hS hA [0, 1, 2, 3, 4, 5, 6, 7, 8, 9, 10, 11] rfl
  refine va_callr (va_runV (As := [.int (nI 1)]) (rest := []) ⟨hx, hb, hml, hown, hts⟩ (c_X_listNumbered l dC dI q ca C L f w d st tg hi mi go 1 H.size (by decide) (by decide) hf) (cwV 1 hts gX1_moveToCameAgain_X1_listNumbered rfl rfl rfl (by decide +kernel) ⟨Nat.le_of_ble_eq_true rfl, Nat.le_of_ble_eq_true rfl⟩) ⟨fun a U g mk q => by obtain ⟨q0, q1, qP, qK, qD⟩ := q; exact ⟨q0, q1, qP, va_K.moved (u := U) (U := U.calling g mk a) (Vm.Alike.refl U.vm) qK, qD⟩, va_recv hKc hPc (ci := 1) (q0 := 0) rfl rfl, fun U hU hW => ⟨rfl, by rw [hU], by rw [hU]; exact hPc, va_K.moved hW.alike hKc, hDc.weaken (fun _ _ _ _ => trivial)⟩⟩ rfl rfl hl.1 rfl (lv_room (Nat.le_of_ble_eq_true rfl)) dX1_moveToCameAgain_2 ⟨Nat.le_of_ble_eq_true rfl, Nat.le_of_ble_eq_true rfl⟩) hS (fun q _ h => hFc q h) hFc (fun u ra t H1 locs ht hvm hw hB hz1 hk1 hS => ?_)
  obtain ⟨era, f1, hf1, hP1, hK1, hD1⟩ := hB
  rw [ht] at hP1
  subst era
  obtain ⟨f_1, ef_1⟩ : ∃ z, z = f1 := ⟨_, rfl⟩
  rw [← ef_1] at hf1 hP1 hD1
  clear ef_1 f1
  have hfx_2 := hf1
  obtain ⟨hP, hD⟩ := va_join (wr := []) (w1 := (cx q ca C L f_1 w d st tg hi mi go)) hP hD [0, 1, 2, 3, 4, 5, 6, 7, 8, 9, 10, 11] [] rfl rfl (by decide) (by decide) hk1 hFc hP1 hD1
  generalize H1 = H at hP hS ⊢
  replace hP : va_P (dC, dI) vwCl (cx q ca C L f_1 w d st tg hi mi go) H := hP
  replace hD : va_D A (cx q ca C L f_1 w d st tg hi mi go) := hD
  refine lv_iload_n hx hb dX1_moveToCameAgain_5 rfl (lv_at hl 1 rfl) ?_
  have hPc := hP.sub (ws' := (cal (q 1) (q 5) (ca 1) ((L 1).length) (f_1 1))) [1, 2] rfl
  have hDc := hD.sub (ws' := (cal (q 1) (q 5) (ca 1) ((L 1).length) (f_1 1))) [1, 2] (by decide) rfl
  have hKc := hK.sub (tys' := (kal (ca 1))) [0] rfl
  have hFc := va_free (wc := (cal (q 1) (q 5) (ca 1) ((L 1).length) (f_1 1))) hD hS hA [1, 2] rfl
  refine va_callv (va_runV (As := [.int x]) (rest := []) ⟨hx, hb, hml, hown, hts⟩ (c_A_remove l dC dI (q 1) (q 5) (ca 1) (L 1) (f_1 1) x H.size (Nat.le_trans z1 (by decide)) (hfx_2 1 (by decide) (by decide)) (hI.1 1)) (cwV 1 hts gX1_moveToCameAgain_X0_remove rfl rfl rfl (by decide +kernel) ⟨Nat.le_of_ble_eq_true rfl, Nat.le_of_ble_eq_true rfl⟩) ⟨fun a U g mk q => by obtain ⟨q0, q1, qP, qK, qD⟩ := q; exact ⟨q0, q1, qP, va_K.moved (u := U) (U := U.calling g mk a) (Vm.Alike.refl U.vm) qK, qD⟩, va_recv hKc hPc (ci := 0) (q0 := 0) rfl rfl, fun U hU hW => ⟨rfl, by rw [hU], by rw [hU]; exact hPc, va_K.moved hW.alike hKc, hDc.weaken (fun _ _ _ _ => trivial)⟩⟩ rfl rfl hl.1 rfl (lv_room (Nat.le_of_ble_eq_true rfl)) dX1_moveToCameAgain_6 ⟨Nat.le_of_ble_eq_true rfl, Nat.le_of_ble_eq_true rfl⟩) hS (fun q _ h => hFc q h) hFc (fun u t H1 locs ht hvm hw hB hz1 hk1 hS => ?_)
  obtain ⟨n1, f1⟩ := u
  obtain ⟨hP1, hK1, hD1⟩ := hB
  rw [ht] at hP1
  try dsimp only at hw hP1 hD1
  obtain ⟨hn9, hf9⟩ := hw
  subst hn9
  obtain ⟨f_3, ef_3⟩ : ∃ z, z = f1 := ⟨_, rfl⟩
  rw [← ef_3] at hf9 hP1 hD1
  clear ef_3 f1
  have hfx_4 := fx_up (k := 1) hfx_2 hf9
  obtain ⟨hP, hD⟩ := va_join (wr := [(q 0, .inr (1, [.int (nI C), .ref (q 1), .ref (q 2), .ref (q 3), .ref (q 4), .ref (q 9), .ref (q 10), .ref (q 11), .int (nI tg), .int hi, .int mi, .int go])), (q 2, .inr (0, [.ref (q 6), .int (nI ((L 2).length))])), (q 6, .inl (ca 2, 64, .inl (f_1 2))), (q 3, .inr (0, [.ref (q 7), .int (nI ((L 3).length))])), (q 7, .inl (ca 3, 64, .inl (f_1 3))), (q 4, .inr (0, [.ref (q 8), .int (nI ((L 4).length))])), (q 8, .inl (ca 4, 64, .inl (f_1 4))), (q 9, .inl (ca 5, 64, .inl w)), (q 10, .inl (ca 6, 64, .inl d)), (q 11, .inl (ca 7, 64, .inl st))]) (w1 := (cal (q 1) (q 5) (ca 1) ((ap_rm x (L 1)).length) f_3)) hP hD [1, 2] [0, 3, 4, 5, 6, 7, 8, 9, 10, 11] rfl rfl (by decide) (by decide) hk1 hFc hP1 hD1
  generalize H1 = H at hP hS ⊢
  replace hP := hP.sub (ws' := (cx q ca C (va_up L 1 (ap_rm x (L 1))) (va_up f_1 1 f_3) w d st tg hi mi go)) [0, 10, 11, 1, 2, 3, 4, 5, 6, 7, 8, 9] rfl
  replace hD := hD.sub (ws' := (cx q ca C (va_up L 1 (ap_rm x (L 1))) (va_up f_1 1 f_3) w d st tg hi mi go)) [0, 10, 11, 1, 2, 3, 4, 5, 6, 7, 8, 9] (by decide) rfl
  refine lv_aload_n hx hb dX1_moveToCameAgain_9 rfl (lv_at hl 0 rfl) ?_
  refine va_get (D := (dC, dI)) (ci := 1) (v := .ref (q 2)) (C := RX1) (T := TX1) (N := 12) hx hb hts hwX1 hown hK hP 0 rfl rfl 2 (by decide) (hts (.fieldLink RX1 16 "ArcCache" "cameAgain" "LArcCache$AddressList;") (by decide +kernel)) (fun _ h9 => h9) rfl dX1_moveToCameAgain_10 ?_
  refine lv_iload_n hx hb dX1_moveToCameAgain_13 rfl (lv_at hl 1 rfl) ?_
  have hln9 : (L 2).length < 64 := by omega
  have hPc := hP.sub (ws' := (cal (q 2) (q 6) (ca 2) (((va_up L 1 (ap_rm x (L 1))) 2).length) ((va_up f_1 1 f_3) 2))) [3, 4] rfl
  have hDc := hD.sub (ws' := (cal (q 2) (q 6) (ca 2) (((va_up L 1 (ap_rm x (L 1))) 2).length) ((va_up f_1 1 f_3) 2))) [3, 4] (by decide) rfl
  have hKc := hK.sub (tys' := (kal (ca 2))) [1] rfl
  have hFc := va_free (wc := (cal (q 2) (q 6) (ca 2) (((va_up L 1 (ap_rm x (L 1))) 2).length) ((va_up f_1 1 f_3) 2))) hD hS hA [3, 4] rfl
  refine va_callv (va_runV (As := [.int x]) (rest := []) ⟨hx, hb, hml, hown, hts⟩ (c_A_addNewest l dC dI (q 2) (q 6) (ca 2) ((va_up L 1 (ap_rm x (L 1))) 2) ((va_up f_1 1 f_3) 2) x H.size hln9 (hfx_4 2 (by decide) (by decide))) (cwV 1 hts gX1_moveToCameAgain_X0_addNewest rfl rfl rfl (by decide +kernel) ⟨Nat.le_of_ble_eq_true rfl, Nat.le_of_ble_eq_true rfl⟩) ⟨fun a U g mk q => by obtain ⟨q0, q1, qP, qK, qD, qN⟩ := q; exact ⟨q0, q1, qP, va_K.moved (u := U) (U := U.calling g mk a) (Vm.Alike.refl U.vm) qK, qD, va_tabs rfl (rfl : U.vm = (U.calling g mk a).vm) qN⟩, va_recv hKc hPc (ci := 0) (q0 := 0) rfl rfl, fun U hU hW => ⟨rfl, by rw [hU], by rw [hU]; exact hPc, va_K.moved hW.alike hKc, hDc.weaken (fun _ _ _ _ => trivial), va_Nw.warmM hW hN⟩⟩ rfl rfl hl.1 rfl (lv_room (Nat.le_of_ble_eq_true rfl)) dX1_moveToCameAgain_14 ⟨Nat.le_of_ble_eq_true rfl, Nat.le_of_ble_eq_true rfl⟩) hS (fun q _ h => hFc q h) hFc (fun u t H1 locs ht hvm hw hB hz1 hk1 hS => ?_)
  obtain ⟨n1, f1⟩ := u
  obtain ⟨hP1, hK1, hD1⟩ := hB
  rw [ht] at hP1
  try dsimp only at hw hP1 hD1
  rw [al_add_in hx64] at hw
  obtain ⟨hn9, hf9⟩ := hw
  subst hn9
  obtain ⟨f_5, ef_5⟩ : ∃ z, z = f1 := ⟨_, rfl⟩
  rw [← ef_5] at hf9 hP1 hD1
  clear ef_5 f1
  have hfx_6 := fx_up (k := 2) hfx_4 hf9
  obtain ⟨hP, hD⟩ := va_join (wr := [(q 0, .inr (1, [.int (nI C), .ref (q 1), .ref (q 2), .ref (q 3), .ref (q 4), .ref (q 9), .ref (q 10), .ref (q 11), .int (nI tg), .int hi, .int mi, .int go])), (q 1, .inr (0, [.ref (q 5), .int (nI (((va_up L 1 (ap_rm x (L 1))) 1).length))])), (q 5, .inl (ca 1, 64, .inl ((va_up f_1 1 f_3) 1))), (q 3, .inr (0, [.ref (q 7), .int (nI (((va_up L 1 (ap_rm x (L 1))) 3).length))])), (q 7, .inl (ca 3, 64, .inl ((va_up f_1 1 f_3) 3))), (q 4, .inr (0, [.ref (q 8), .int (nI (((va_up L 1 (ap_rm x (L 1))) 4).length))])), (q 8, .inl (ca 4, 64, .inl ((va_up f_1 1 f_3) 4))), (q 9, .inl (ca 5, 64, .inl w)), (q 10, .inl (ca 6, 64, .inl d)), (q 11, .inl (ca 7, 64, .inl st))]) (w1 := (cal (q 2) (q 6) (ca 2) ((x :: (va_up L 1 (ap_rm x (L 1))) 2).length) f_5)) hP hD [3, 4] [0, 1, 2, 5, 6, 7, 8, 9, 10, 11] rfl rfl (by decide) (by decide) hk1 hFc hP1 hD1
  generalize H1 = H at hP hS ⊢
  replace hP := hP.sub (ws' := (cx q ca C (va_up (va_up L 1 (ap_rm x (L 1))) 2 (x :: (va_up L 1 (ap_rm x (L 1))) 2)) (va_up (va_up f_1 1 f_3) 2 f_5) w d st tg hi mi go)) [0, 1, 2, 10, 11, 3, 4, 5, 6, 7, 8, 9] rfl
  replace hD := hD.sub (ws' := (cx q ca C (va_up (va_up L 1 (ap_rm x (L 1))) 2 (x :: (va_up L 1 (ap_rm x (L 1))) 2)) (va_up (va_up f_1 1 f_3) 2 f_5) w d st tg hi mi go)) [0, 1, 2, 10, 11, 3, 4, 5, 6, 7, 8, 9] (by decide) rfl
  exact W.vret hx hb hr (fun t ht hW => ⟨⟨(ap_mv L x 1 2, w, d, st, tg, hi, mi, go), rfl, rfl, va_up (va_up f_1 1 f_3) 2 f_5, hfx_6, by rw [ht]; exact hP, va_K.moved hW.alike hK, hD⟩, hS.F ht⟩) hS.2.2 dX1_moveToCameAgain_17
set_option maxHeartbeats 4000000 in
set_option maxRecDepth 100000 in
theorem c_X_move2 (l : Launch) (dC : Nat → ClassId) (dI : Nat → Nat → Nat) (q : Nat → Nat) (ca : Nat → ClassId) (C : Nat) (L : Nat → List Int32) (f : Nat → Nat → Int32) (w d st : Nat → Int32) (tg : Nat) (hi mi go : Int32) (x : Int32) (sz : Nat) (hf : fx_ok f L) (hI : ap_inv L) (hz : ap_tot L ≤ 48) (hx64 : vp_in x 64) : Met l yX1_moveToCameAgain wsX1_moveToCameAgain ({ frames := 2, cells := 0, slots := 0, locals := 82 }) (va_Pc [.ref (q 0), .int x, .int (nI 2)] (fun U => U.heap.size = sz ∧ va_P (dC, dI) vwCl (cx q ca C L f w d st tg hi mi go) U.heap ∧ va_K (dC, dI) vwCl (kx ca) U ∧ va_D (fun _ => True) (cx q ca C L f w d st tg hi mi go) ∧ va_Nw (.methodLinkNest RX0 23 yX1_isAddress "ArcCache") U)) (va_Qv (fun (u : ap_U) => u = (ap_mv L x 2 2, w, d, st, tg, hi, mi, go)) (at_X dC dI (va_A (cx q ca C L f w d st tg hi mi go) sz) q ca C) (va_A (cx q ca C L f w d st tg hi mi go) sz)) 0 0 (va_A (cx q ca C L f w d st tg hi mi go) sz) := by
  refine Met.ofW (cc := cX1_moveToCameAgain) (maxL := 3) (ret := none) (by decide) rfl ?_
  intro p e s m args below meth c s₁ B hml hv
  obtain ⟨rfl, hsz, hP, hK, hD0, hN⟩ := hv
  have hx := B.exec
  have hb := B.bytes
  have hr := B.returns
  have hts := atoms_spec (ws := wsX1_moveToCameAgain) B.pre
  have hown : s.vm.findClass RX1 = some m.cls := findClass_of_methodNamed B.named
  have hlocks := B.notSynchronized
  have hwX1 : ∀ w ∈ u_ws RX1 TX1 12, w ∈ wsX1_moveToCameAgain := by decide +kernel
  subst hsz
  have hD := hD0.self (sz := s.heap.size)
  generalize hAe : va_A (cx q ca C L f w d st tg hi mi go) s.heap.size = A at hD ⊢
  have hA : ∀ q : Nat, s.heap.size ≤ q → A q := fun q h => by rw [← hAe]; exact Or.inr h
  have hS0 : ∀ H, s.heap = H → va_S A s.heap H [] := fun H h => by subst h; exact va_S.rf
  have hl := lv_entry ([.ref (q 0), .int x, .int (nI 2)]) (n := 3) (Nat.le_of_ble_eq_true rfl)
  rw [lg_entry_eq]
  generalize (lg_sl ([.ref (q 0), .int x, .int (nI 2)]) ++ List.replicate (3 - (lg_sl ([.ref (q 0), .int x, .int (nI 2)])).length) Slot.unset).toArray = ls at hl ⊢
  have hl : lv_has ls 3 [(0, .ref (q 0)), (1, .int x), (2, .int (nI 2))] := hl
  generalize hHe : s.heap = H at hP ⊢
  have hS := hS0 H hHe
  have z1 : (L 1).length ≤ 48 := by unfold ap_tot at hz; omega
  have z2 : (L 2).length ≤ 48 := by unfold ap_tot at hz; omega
  have z3 : (L 3).length ≤ 48 := by unfold ap_tot at hz; omega
  have z4 : (L 4).length ≤ 48 := by unfold ap_tot at hz; omega
  refine lv_aload_n hx hb dX1_moveToCameAgain_0 rfl (lv_at hl 0 rfl) ?_
  refine lv_iload_n hx hb dX1_moveToCameAgain_1 rfl (lv_at hl 2 rfl) ?_
  have hPc := hP.sub (ws' := (cx q ca C L f w d st tg hi mi go)) [0, 1, 2, 3, 4, 5, 6, 7, 8, 9, 10, 11] rfl
  have hDc := hD.sub (ws' := (cx q ca C L f w d st tg hi mi go)) [0, 1, 2, 3, 4, 5, 6, 7, 8, 9, 10, 11] (by decide) rfl
  have hKc := hK.sub (tys' := (kx ca)) [0, 1, 2, 3, 4, 5, 6] rfl
  have hFc := va_free (wc := (cx q ca C L f w d st tg hi mi go)) hD hS hA [0, 1, 2, 3, 4, 5, 6, 7, 8, 9, 10, 11] rfl
  refine va_callr (va_runV (As := [.int (nI 2)]) (rest := []) ⟨hx, hb, hml, hown, hts⟩ (c_X_listNumbered l dC dI q ca C L f w d st tg hi mi go 2 H.size (by decide) (by decide) hf) (cwV 1 hts gX1_moveToCameAgain_X1_listNumbered rfl rfl rfl (by decide +kernel) ⟨Nat.le_of_ble_eq_true rfl, Nat.le_of_ble_eq_true rfl⟩) ⟨fun a U g mk q => by obtain ⟨q0, q1, qP, qK, qD⟩ := q; exact ⟨q0, q1, qP, va_K.moved (u := U) (U := U.calling g mk a) (Vm.Alike.refl U.vm) qK, qD⟩, va_recv hKc hPc (ci := 1) (q0 := 0) rfl rfl, fun U hU hW => ⟨rfl, by rw [hU], by rw [hU]; exact hPc, va_K.moved hW.alike hKc, hDc.weaken (fun _ _ _ _ => trivial)⟩⟩ rfl rfl hl.1 rfl (lv_room (Nat.le_of_ble_eq_true rfl)) dX1_moveToCameAgain_2 ⟨Nat.le_of_ble_eq_true rfl, Nat.le_of_ble_eq_true rfl⟩) hS (fun q _ h => hFc q h) hFc (fun u ra t H1 locs ht hvm hw hB hz1 hk1 hS => ?_)
  obtain ⟨era, f1, hf1, hP1, hK1, hD1⟩ := hB
  rw [ht] at hP1
  subst era
  obtain ⟨f_1, ef_1⟩ : ∃ z, z = f1 := ⟨_, rfl⟩
  rw [← ef_1] at hf1 hP1 hD1
  clear ef_1 f1
  have hfx_2 := hf1
  obtain ⟨hP, hD⟩ := va_join (wr := []) (w1 := (cx q ca C L f_1 w d st tg hi mi go)) hP hD [0, 1, 2, 3, 4, 5, 6, 7, 8, 9, 10, 11] [] rfl rfl (by decide) (by decide) hk1 hFc hP1 hD1
  generalize H1 = H at hP hS ⊢
  replace hP : va_P (dC, dI) vwCl (cx q ca C L f_1 w d st tg hi mi go) H := hP
  replace hD : va_D A (cx q ca C L f_1 w d st tg hi mi go) := hD
  refine lv_iload_n hx hb dX1_moveToCameAgain_5 rfl (lv_at hl 1 rfl) ?_
  have hPc := hP.sub (ws' := (cal (q 2) (q 6) (ca 2) ((L 2).length) (f_1 2))) [3, 4] rfl
  have hDc := hD.sub (ws' := (cal (q 2) (q 6) (ca 2) ((L 2).length) (f_1 2))) [3, 4] (by decide) rfl
  have hKc := hK.sub (tys' := (kal (ca 2))) [1] rfl
  have hFc := va_free (wc := (cal (q 2) (q 6) (ca 2) ((L 2).length) (f_1 2))) hD hS hA [3, 4] rfl
  refine va_callv (va_runV (As := [.int x]) (rest := []) ⟨hx, hb, hml, hown, hts⟩ (c_A_remove l dC dI (q 2) (q 6) (ca 2) (L 2) (f_1 2) x H.size (Nat.le_trans z2 (by decide)) (hfx_2 2 (by decide) (by decide)) (hI.1 2)) (cwV 1 hts gX1_moveToCameAgain_X0_remove rfl rfl rfl (by decide +kernel) ⟨Nat.le_of_ble_eq_true rfl, Nat.le_of_ble_eq_true rfl⟩) ⟨fun a U g mk q => by obtain ⟨q0, q1, qP, qK, qD⟩ := q; exact ⟨q0, q1, qP, va_K.moved (u := U) (U := U.calling g mk a) (Vm.Alike.refl U.vm) qK, qD⟩, va_recv hKc hPc (ci := 0) (q0 := 0) rfl rfl, fun U hU hW => ⟨rfl, by rw [hU], by rw [hU]; exact hPc, va_K.moved hW.alike hKc, hDc.weaken (fun _ _ _ _ => trivial)⟩⟩ rfl rfl hl.1 rfl (lv_room (Nat.le_of_ble_eq_true rfl)) dX1_moveToCameAgain_6 ⟨Nat.le_of_ble_eq_true rfl, Nat.le_of_ble_eq_true rfl⟩) hS (fun q _ h => hFc q h) hFc (fun u t H1 locs ht hvm hw hB hz1 hk1 hS => ?_)
  obtain ⟨n1, f1⟩ := u
  obtain ⟨hP1, hK1, hD1⟩ := hB
  rw [ht] at hP1
  try dsimp only at hw hP1 hD1
  obtain ⟨hn9, hf9⟩ := hw
  subst hn9
  obtain ⟨f_3, ef_3⟩ : ∃ z, z = f1 := ⟨_, rfl⟩
  rw [← ef_3] at hf9 hP1 hD1
  clear ef_3 f1
  have hfx_4 := fx_up (k := 2) hfx_2 hf9
  obtain ⟨hP, hD⟩ := va_join (wr := [(q 0, .inr (1, [.int (nI C), .ref (q 1), .ref (q 2), .ref (q 3), .ref (q 4), .ref (q 9), .ref (q 10), .ref (q 11), .int (nI tg), .int hi, .int mi, .int go])), (q 1, .inr (0, [.ref (q 5), .int (nI ((L 1).length))])), (q 5, .inl (ca 1, 64, .inl (f_1 1))), (q 3, .inr (0, [.ref (q 7), .int (nI ((L 3).length))])), (q 7, .inl (ca 3, 64, .inl (f_1 3))), (q 4, .inr (0, [.ref (q 8), .int (nI ((L 4).length))])), (q 8, .inl (ca 4, 64, .inl (f_1 4))), (q 9, .inl (ca 5, 64, .inl w)), (q 10, .inl (ca 6, 64, .inl d)), (q 11, .inl (ca 7, 64, .inl st))]) (w1 := (cal (q 2) (q 6) (ca 2) ((ap_rm x (L 2)).length) f_3)) hP hD [3, 4] [0, 1, 2, 5, 6, 7, 8, 9, 10, 11] rfl rfl (by decide) (by decide) hk1 hFc hP1 hD1
  generalize H1 = H at hP hS ⊢
  replace hP := hP.sub (ws' := (cx q ca C (va_up L 2 (ap_rm x (L 2))) (va_up f_1 2 f_3) w d st tg hi mi go)) [0, 1, 2, 10, 11, 3, 4, 5, 6, 7, 8, 9] rfl
  replace hD := hD.sub (ws' := (cx q ca C (va_up L 2 (ap_rm x (L 2))) (va_up f_1 2 f_3) w d st tg hi mi go)) [0, 1, 2, 10, 11, 3, 4, 5, 6, 7, 8, 9] (by decide) rfl
  refine lv_aload_n hx hb dX1_moveToCameAgain_9 rfl (lv_at hl 0 rfl) ?_
  refine va_get (D := (dC, dI)) (ci := 1) (v := .ref (q 2)) (C := RX1) (T := TX1) (N := 12) hx hb hts hwX1 hown hK hP 0 rfl rfl 2 (by decide) (hts (.fieldLink RX1 16 "ArcCache" "cameAgain" "LArcCache$AddressList;") (by decide +kernel)) (fun _ h9 => h9) rfl dX1_moveToCameAgain_10 ?_
  refine lv_iload_n hx hb dX1_moveToCameAgain_13 rfl (lv_at hl 1 rfl) ?_
  have hln9 : (ap_rm x (L 2)).length < 64 := Nat.lt_of_le_of_lt ap_rm_le (by omega)
  have hPc := hP.sub (ws' := (cal (q 2) (q 6) (ca 2) (((va_up L 2 (ap_rm x (L 2))) 2).length) ((va_up f_1 2 f_3) 2))) [3, 4] rfl
  have hDc := hD.sub (ws' := (cal (q 2) (q 6) (ca 2) (((va_up L 2 (ap_rm x (L 2))) 2).length) ((va_up f_1 2 f_3) 2))) [3, 4] (by decide) rfl
  have hKc := hK.sub (tys' := (kal (ca 2))) [1] rfl
  have hFc := va_free (wc := (cal (q 2) (q 6) (ca 2) (((va_up L 2 (ap_rm x (L 2))) 2).length) ((va_up f_1 2 f_3) 2))) hD hS hA [3, 4] rfl
  refine va_callv (va_runV (As := [.int x]) (rest := []) ⟨hx, hb, hml, hown, hts⟩ (c_A_addNewest l dC dI (q 2) (q 6) (ca 2) ((va_up L 2 (ap_rm x (L 2))) 2) ((va_up f_1 2 f_3) 2) x H.size hln9 (hfx_4 2 (by decide) (by decide))) (cwV 1 hts gX1_moveToCameAgain_X0_addNewest rfl rfl rfl (by decide +kernel) ⟨Nat.le_of_ble_eq_true rfl, Nat.le_of_ble_eq_true rfl⟩) ⟨fun a U g mk q => by obtain ⟨q0, q1, qP, qK, qD, qN⟩ := q; exact ⟨q0, q1, qP, va_K.moved (u := U) (U := U.calling g mk a) (Vm.Alike.refl U.vm) qK, qD, va_tabs rfl (rfl : U.vm = (U.calling g mk a).vm) qN⟩, va_recv hKc hPc (ci := 0) (q0 := 0) rfl rfl, fun U hU hW => ⟨rfl, by rw [hU], by rw [hU]; exact hPc, va_K.moved hW.alike hKc, hDc.weaken (fun _ _ _ _ => trivial), va_Nw.warmM hW hN⟩⟩ rfl rfl hl.1 rfl (lv_room (Nat.le_of_ble_eq_true rfl)) dX1_moveToCameAgain_14 ⟨Nat.le_of_ble_eq_true rfl, Nat.le_of_ble_eq_true rfl⟩) hS (fun q _ h => hFc q h) hFc (fun u t H1 locs ht hvm hw hB hz1 hk1 hS => ?_)
  obtain ⟨n1, f1⟩ := u
  obtain ⟨hP1, hK1, hD1⟩ := hB
  rw [ht] at hP1
  try dsimp only at hw hP1 hD1
  rw [al_add_in hx64] at hw
  obtain ⟨hn9, hf9⟩ := hw
  subst hn9
  obtain ⟨f_5, ef_5⟩ : ∃ z, z = f1 := ⟨_, rfl⟩
  rw [← ef_5] at hf9 hP1 hD1
  clear ef_5 f1
  have hfx_6 := fx_up (k := 2) hfx_4 hf9
  obtain ⟨hP, hD⟩ := va_join (wr := [(q 0, .inr (1, [.int (nI C), .ref (q 1), .ref (q 2), .ref (q 3), .ref (q 4), .ref (q 9), .ref (q 10), .ref (q 11), .int (nI tg), .int hi, .int mi, .int go])), (q 1, .inr (0, [.ref (q 5), .int (nI (((va_up L 2 (ap_rm x (L 2))) 1).length))])), (q 5, .inl (ca 1, 64, .inl ((va_up f_1 2 f_3) 1))), (q 3, .inr (0, [.ref (q 7), .int (nI (((va_up L 2 (ap_rm x (L 2))) 3).length))])), (q 7, .inl (ca 3, 64, .inl ((va_up f_1 2 f_3) 3))), (q 4, .inr (0, [.ref (q 8), .int (nI (((va_up L 2 (ap_rm x (L 2))) 4).length))])), (q 8, .inl (ca 4, 64, .inl ((va_up f_1 2 f_3) 4))), (q 9, .inl (ca 5, 64, .inl w)), (q 10, .inl (ca 6, 64, .inl d)), (q 11, .inl (ca 7, 64, .inl st))]) (w1 := (cal (q 2) (q 6) (ca 2) ((x :: (va_up L 2 (ap_rm x (L 2))) 2).length) f_5)) hP hD [3, 4] [0, 1, 2, 5, 6, 7, 8, 9, 10, 11] rfl rfl (by decide) (by decide) hk1 hFc hP1 hD1
  generalize H1 = H at hP hS ⊢
  replace hP := hP.sub (ws' := (cx q ca C (va_up (va_up L 2 (ap_rm x (L 2))) 2 (x :: (va_up L 2 (ap_rm x (L 2))) 2)) (va_up (va_up f_1 2 f_3) 2 f_5) w d st tg hi mi go)) [0, 1, 2, 10, 11, 3, 4, 5, 6, 7, 8, 9] rfl
  replace hD := hD.sub (ws' := (cx q ca C (va_up (va_up L 2 (ap_rm x (L 2))) 2 (x :: (va_up L 2 (ap_rm x (L 2))) 2)) (va_up (va_up f_1 2 f_3) 2 f_5) w d st tg hi mi go)) [0, 1, 2, 10, 11, 3, 4, 5, 6, 7, 8, 9] (by decide) rfl
  exact W.vret hx hb hr (fun t ht hW => ⟨⟨(ap_mv L x 2 2, w, d, st, tg, hi, mi, go), rfl, rfl, va_up (va_up f_1 2 f_3) 2 f_5, hfx_6, by rw [ht]; exact hP, va_K.moved hW.alike hK, hD⟩, hS.F ht⟩) hS.2.2 dX1_moveToCameAgain_17
set_option maxHeartbeats 4000000 in
set_option maxRecDepth 100000 in
theorem c_X_move3 (l : Launch) (dC : Nat → ClassId) (dI : Nat → Nat → Nat) (q : Nat → Nat) (ca : Nat → ClassId) (C : Nat) (L : Nat → List Int32) (f : Nat → Nat → Int32) (w d st : Nat → Int32) (tg : Nat) (hi mi go : Int32) (x : Int32) (sz : Nat) (hf : fx_ok f L) (hI : ap_inv L) (hz : ap_tot L ≤ 48) (hx64 : vp_in x 64) : Met l yX1_moveToCameAgain wsX1_moveToCameAgain ({ frames := 2, cells := 0, slots := 0, locals := 82 }) (va_Pc [.ref (q 0), .int x, .int (nI 3)] (fun U => U.heap.size = sz ∧ va_P (dC, dI) vwCl (cx q ca C L f w d st tg hi mi go) U.heap ∧ va_K (dC, dI) vwCl (kx ca) U ∧ va_D (fun _ => True) (cx q ca C L f w d st tg hi mi go) ∧ va_Nw (.methodLinkNest RX0 23 yX1_isAddress "ArcCache") U)) (va_Qv (fun (u : ap_U) => u = (ap_mv L x 3 2, w, d, st, tg, hi, mi, go)) (at_X dC dI (va_A (cx q ca C L f w d st tg hi mi go) sz) q ca C) (va_A (cx q ca C L f w d st tg hi mi go) sz)) 0 0 (va_A (cx q ca C L f w d st tg hi mi go) sz) := by
  refine Met.ofW (cc := cX1_moveToCameAgain) (maxL := 3) (ret := none) (by decide) rfl ?_
  intro p e s m args below meth c s₁ B hml hv
  obtain ⟨rfl, hsz, hP, hK, hD0, hN⟩ := hv
  have hx := B.exec
  have hb := B.bytes
  have hr := B.returns
  have hts := atoms_spec (ws := wsX1_moveToCameAgain) B.pre
  have hown : s.vm.findClass RX1 = some m.cls := findClass_of_methodNamed B.named
  have hlocks := B.notSynchronized
  have hwX1 : ∀ w ∈ u_ws RX1 TX1 12, w ∈ wsX1_moveToCameAgain := by decide +kernel
  subst hsz
  have hD := hD0.self (sz := s.heap.size)
  generalize hAe : va_A (cx q ca C L f w d st tg hi mi go) s.heap.size = A at hD ⊢
  have hA : ∀ q : Nat, s.heap.size ≤ q → A q := fun q h => by rw [← hAe]; exact Or.inr h
  have hS0 : ∀ H, s.heap = H → va_S A s.heap H [] := fun H h => by subst h; exact va_S.rf
  have hl := lv_entry ([.ref (q 0), .int x, .int (nI 3)]) (n := 3) (Nat.le_of_ble_eq_true rfl)
  rw [lg_entry_eq]
  generalize (lg_sl ([.ref (q 0), .int x, .int (nI 3)]) ++ List.replicate (3 - (lg_sl ([.ref (q 0), .int x, .int (nI 3)])).length) Slot.unset).toArray = ls at hl ⊢
  have hl : lv_has ls 3 [(0, .ref (q 0)), (1, .int x), (2, .int (nI 3))] := hl
  generalize hHe : s.heap = H at hP ⊢
  have hS := hS0 H hHe
  have z1 : (L 1).length ≤ 48 := by unfold ap_tot at hz; omega
  have z2 : (L 2).length ≤ 48 := by unfold ap_tot at hz; omega
  have z3 : (L 3).length ≤ 48 := by unfold ap_tot at hz; omega
  have z4 : (L 4).length ≤ 48 := by unfold ap_tot at hz; omega
  refine lv_aload_n hx hb dX1_moveToCameAgain_0 rfl (lv_at hl 0 rfl) ?_
  refine lv_iload_n hx hb dX1_moveToCameAgain_1 rfl (lv_at hl 2 rfl) ?_
  have hPc := hP.sub (ws' := (cx q ca C L f w d st tg hi mi go)) [0, 1, 2, 3, 4, 5, 6, 7, 8, 9, 10, 11] rfl
  have hDc := hD.sub (ws' := (cx q ca C L f w d st tg hi mi go)) [0, 1, 2, 3, 4, 5, 6, 7, 8, 9, 10, 11] (by decide) rfl
  have hKc := hK.sub (tys' := (kx ca)) [0, 1, 2, 3, 4, 5, 6] rfl
  have hFc := va_free (wc := (cx q ca C L f w d st tg hi mi go)) hD hS hA [0, 1, 2, 3, 4, 5, 6, 7, 8, 9, 10, 11] rfl
  refine va_callr (va_runV (As := [.int (nI 3)]) (rest := []) ⟨hx, hb, hml, hown, hts⟩ (c_X_listNumbered l dC dI q ca C L f w d st tg hi mi go 3 H.size (by decide) (by decide) hf) (cwV 1 hts gX1_moveToCameAgain_X1_listNumbered rfl rfl rfl (by decide +kernel) ⟨Nat.le_of_ble_eq_true rfl, Nat.le_of_ble_eq_true rfl⟩) ⟨fun a U g mk q => by obtain ⟨q0, q1, qP, qK, qD⟩ := q; exact ⟨q0, q1, qP, va_K.moved (u := U) (U := U.calling g mk a) (Vm.Alike.refl U.vm) qK, qD⟩, va_recv hKc hPc (ci := 1) (q0 := 0) rfl rfl, fun U hU hW => ⟨rfl, by rw [hU], by rw [hU]; exact hPc, va_K.moved hW.alike hKc, hDc.weaken (fun _ _ _ _ => trivial)⟩⟩ rfl rfl hl.1 rfl (lv_room (Nat.le_of_ble_eq_true rfl)) dX1_moveToCameAgain_2 ⟨Nat.le_of_ble_eq_true rfl, Nat.le_of_ble_eq_true rfl⟩) hS (fun q _ h => hFc q h) hFc (fun u ra t H1 locs ht hvm hw hB hz1 hk1 hS => ?_)
  obtain ⟨era, f1, hf1, hP1, hK1, hD1⟩ := hB
  rw [ht] at hP1
  subst era
  obtain ⟨f_1, ef_1⟩ : ∃ z, z = f1 := ⟨_, rfl⟩
  rw [← ef_1] at hf1 hP1 hD1
  clear ef_1 f1
  have hfx_2 := hf1
  obtain ⟨hP, hD⟩ := va_join (wr := []) (w1 := (cx q ca C L f_1 w d st tg hi mi go)) hP hD [0, 1, 2, 3, 4, 5, 6, 7, 8, 9, 10, 11] [] rfl rfl (by decide) (by decide) hk1 hFc hP1 hD1
  generalize H1 = H at hP hS ⊢
  replace hP : va_P (dC, dI) vwCl (cx q ca C L f_1 w d st tg hi mi go) H := hP
  replace hD : va_D A (cx q ca C L f_1 w d st tg hi mi go) := hD
  refine lv_iload_n hx hb dX1_moveToCameAgain_5 rfl (lv_at hl 1 rfl) ?_
  have hPc := hP.sub (ws' := (cal (q 3) (q 7) (ca 3) ((L 3).length) (f_1 3))) [5, 6] rfl
  have hDc := hD.sub (ws' := (cal (q 3) (q 7) (ca 3) ((L 3).length) (f_1 3))) [5, 6] (by decide) rfl
  have hKc := hK.sub (tys' := (kal (ca 3))) [2] rfl
  have hFc := va_free (wc := (cal (q 3) (q 7) (ca 3) ((L 3).length) (f_1 3))) hD hS hA [5, 6] rfl
  refine va_callv (va_runV (As := [.int x]) (rest := []) ⟨hx, hb, hml, hown, hts⟩ (c_A_remove l dC dI (q 3) (q 7) (ca 3) (L 3) (f_1 3) x H.size (Nat.le_trans z3 (by decide)) (hfx_2 3 (by decide) (by decide)) (hI.1 3)) (cwV 1 hts gX1_moveToCameAgain_X0_remove rfl rfl rfl (by decide +kernel) ⟨Nat.le_of_ble_eq_true rfl, Nat.le_of_ble_eq_true rfl⟩) ⟨fun a U g mk q => by obtain ⟨q0, q1, qP, qK, qD⟩ := q; exact ⟨q0, q1, qP, va_K.moved (u := U) (U := U.calling g mk a) (Vm.Alike.refl U.vm) qK, qD⟩, va_recv hKc hPc (ci := 0) (q0 := 0) rfl rfl, fun U hU hW => ⟨rfl, by rw [hU], by rw [hU]; exact hPc, va_K.moved hW.alike hKc, hDc.weaken (fun _ _ _ _ => trivial)⟩⟩ rfl rfl hl.1 rfl (lv_room (Nat.le_of_ble_eq_true rfl)) dX1_moveToCameAgain_6 ⟨Nat.le_of_ble_eq_true rfl, Nat.le_of_ble_eq_true rfl⟩) hS (fun q _ h => hFc q h) hFc (fun u t H1 locs ht hvm hw hB hz1 hk1 hS => ?_)
  obtain ⟨n1, f1⟩ := u
  obtain ⟨hP1, hK1, hD1⟩ := hB
  rw [ht] at hP1
  try dsimp only at hw hP1 hD1
  obtain ⟨hn9, hf9⟩ := hw
  subst hn9
  obtain ⟨f_3, ef_3⟩ : ∃ z, z = f1 := ⟨_, rfl⟩
  rw [← ef_3] at hf9 hP1 hD1
  clear ef_3 f1
  have hfx_4 := fx_up (k := 3) hfx_2 hf9
  obtain ⟨hP, hD⟩ := va_join (wr := [(q 0, .inr (1, [.int (nI C), .ref (q 1), .ref (q 2), .ref (q 3), .ref (q 4), .ref (q 9), .ref (q 10), .ref (q 11), .int (nI tg), .int hi, .int mi, .int go])), (q 1, .inr (0, [.ref (q 5), .int (nI ((L 1).length))])), (q 5, .inl (ca 1, 64, .inl (f_1 1))), (q 2, .inr (0, [.ref (q 6), .int (nI ((L 2).length))])), (q 6, .inl (ca 2, 64, .inl (f_1 2))), (q 4, .inr (0, [.ref (q 8), .int (nI ((L 4).length))])), (q 8, .inl (ca 4, 64, .inl (f_1 4))), (q 9, .inl (ca 5, 64, .inl w)), (q 10, .inl (ca 6, 64, .inl d)), (q 11, .inl (ca 7, 64, .inl st))]) (w1 := (cal (q 3) (q 7) (ca 3) ((ap_rm x (L 3)).length) f_3)) hP hD [5, 6] [0, 1, 2, 3, 4, 7, 8, 9, 10, 11] rfl rfl (by decide) (by decide) hk1 hFc hP1 hD1
  generalize H1 = H at hP hS ⊢
  replace hP := hP.sub (ws' := (cx q ca C (va_up L 3 (ap_rm x (L 3))) (va_up f_1 3 f_3) w d st tg hi mi go)) [0, 1, 2, 3, 4, 10, 11, 5, 6, 7, 8, 9] rfl
  replace hD := hD.sub (ws' := (cx q ca C (va_up L 3 (ap_rm x (L 3))) (va_up f_1 3 f_3) w d st tg hi mi go)) [0, 1, 2, 3, 4, 10, 11, 5, 6, 7, 8, 9] (by decide) rfl
  refine lv_aload_n hx hb dX1_moveToCameAgain_9 rfl (lv_at hl 0 rfl) ?_
  refine va_get (D := (dC, dI)) (ci := 1) (v := .ref (q 2)) (C := RX1) (T := TX1) (N := 12) hx hb hts hwX1 hown hK hP 0 rfl rfl 2 (by decide) (hts (.fieldLink RX1 16 "ArcCache" "cameAgain" "LArcCache$AddressList;") (by decide +kernel)) (fun _ h9 => h9) rfl dX1_moveToCameAgain_10 ?_
  refine lv_iload_n hx hb dX1_moveToCameAgain_13 rfl (lv_at hl 1 rfl) ?_
  have hln9 : (L 2).length < 64 := by omega
  have hPc := hP.sub (ws' := (cal (q 2) (q 6) (ca 2) (((va_up L 3 (ap_rm x (L 3))) 2).length) ((va_up f_1 3 f_3) 2))) [3, 4] rfl
  have hDc := hD.sub (ws' := (cal (q 2) (q 6) (ca 2) (((va_up L 3 (ap_rm x (L 3))) 2).length) ((va_up f_1 3 f_3) 2))) [3, 4] (by decide) rfl
  have hKc := hK.sub (tys' := (kal (ca 2))) [1] rfl
  have hFc := va_free (wc := (cal (q 2) (q 6) (ca 2) (((va_up L 3 (ap_rm x (L 3))) 2).length) ((va_up f_1 3 f_3) 2))) hD hS hA [3, 4] rfl
  refine va_callv (va_runV (As := [.int x]) (rest := []) ⟨hx, hb, hml, hown, hts⟩ (c_A_addNewest l dC dI (q 2) (q 6) (ca 2) ((va_up L 3 (ap_rm x (L 3))) 2) ((va_up f_1 3 f_3) 2) x H.size hln9 (hfx_4 2 (by decide) (by decide))) (cwV 1 hts gX1_moveToCameAgain_X0_addNewest rfl rfl rfl (by decide +kernel) ⟨Nat.le_of_ble_eq_true rfl, Nat.le_of_ble_eq_true rfl⟩) ⟨fun a U g mk q => by obtain ⟨q0, q1, qP, qK, qD, qN⟩ := q; exact ⟨q0, q1, qP, va_K.moved (u := U) (U := U.calling g mk a) (Vm.Alike.refl U.vm) qK, qD, va_tabs rfl (rfl : U.vm = (U.calling g mk a).vm) qN⟩, va_recv hKc hPc (ci := 0) (q0 := 0) rfl rfl, fun U hU hW => ⟨rfl, by rw [hU], by rw [hU]; exact hPc, va_K.moved hW.alike hKc, hDc.weaken (fun _ _ _ _ => trivial), va_Nw.warmM hW hN⟩⟩ rfl rfl hl.1 rfl (lv_room (Nat.le_of_ble_eq_true rfl)) dX1_moveToCameAgain_14 ⟨Nat.le_of_ble_eq_true rfl, Nat.le_of_ble_eq_true rfl⟩) hS (fun q _ h => hFc q h) hFc (fun u t H1 locs ht hvm hw hB hz1 hk1 hS => ?_)
  obtain ⟨n1, f1⟩ := u
  obtain ⟨hP1, hK1, hD1⟩ := hB
  rw [ht] at hP1
  try dsimp only at hw hP1 hD1
  rw [al_add_in hx64] at hw
  obtain ⟨hn9, hf9⟩ := hw
  subst hn9
  obtain ⟨f_5, ef_5⟩ : ∃ z, z = f1 := ⟨_, rfl⟩
  rw [← ef_5] at hf9 hP1 hD1
  clear ef_5 f1
  have hfx_6 := fx_up (k := 2) hfx_4 hf9
  obtain ⟨hP, hD⟩ := va_join (wr := [(q 0, .inr (1, [.int (nI C), .ref (q 1), .ref (q 2), .ref (q 3), .ref (q 4), .ref (q 9), .ref (q 10), .ref (q 11), .int (nI tg), .int hi, .int mi, .int go])), (q 1, .inr (0, [.ref (q 5), .int (nI (((va_up L 3 (ap_rm x (L 3))) 1).length))])), (q 5, .inl (ca 1, 64, .inl ((va_up f_1 3 f_3) 1))), (q 3, .inr (0, [.ref (q 7), .int (nI (((va_up L 3 (ap_rm x (L 3))) 3).length))])), (q 7, .inl (ca 3, 64, .inl ((va_up f_1 3 f_3) 3))), (q 4, .inr (0, [.ref (q 8), .int (nI (((va_up L 3 (ap_rm x (L 3))) 4).length))])), (q 8, .inl (ca 4, 64, .inl ((va_up f_1 3 f_3) 4))), (q 9, .inl (ca 5, 64, .inl w)), (q 10, .inl (ca 6, 64, .inl d)), (q 11, .inl (ca 7, 64, .inl st))]) (w1 := (cal (q 2) (q 6) (ca 2) ((x :: (va_up L 3 (ap_rm x (L 3))) 2).length) f_5)) hP hD [3, 4] [0, 1, 2, 5, 6, 7, 8, 9, 10, 11] rfl rfl (by decide) (by decide) hk1 hFc hP1 hD1
  generalize H1 = H at hP hS ⊢
  replace hP := hP.sub (ws' := (cx q ca C (va_up (va_up L 3 (ap_rm x (L 3))) 2 (x :: (va_up L 3 (ap_rm x (L 3))) 2)) (va_up (va_up f_1 3 f_3) 2 f_5) w d st tg hi mi go)) [0, 1, 2, 10, 11, 3, 4, 5, 6, 7, 8, 9] rfl
  replace hD := hD.sub (ws' := (cx q ca C (va_up (va_up L 3 (ap_rm x (L 3))) 2 (x :: (va_up L 3 (ap_rm x (L 3))) 2)) (va_up (va_up f_1 3 f_3) 2 f_5) w d st tg hi mi go)) [0, 1, 2, 10, 11, 3, 4, 5, 6, 7, 8, 9] (by decide) rfl
  exact W.vret hx hb hr (fun t ht hW => ⟨⟨(ap_mv L x 3 2, w, d, st, tg, hi, mi, go), rfl, rfl, va_up (va_up f_1 3 f_3) 2 f_5, hfx_6, by rw [ht]; exact hP, va_K.moved hW.alike hK, hD⟩, hS.F ht⟩) hS.2.2 dX1_moveToCameAgain_17
set_option maxHeartbeats 4000000 in
set_option maxRecDepth 100000 in
theorem c_X_move4 (l : Launch) (dC : Nat → ClassId) (dI : Nat → Nat → Nat) (q : Nat → Nat) (ca : Nat → ClassId) (C : Nat) (L : Nat → List Int32) (f : Nat → Nat → Int32) (w d st : Nat → Int32) (tg : Nat) (hi mi go : Int32) (x : Int32) (sz : Nat) (hf : fx_ok f L) (hI : ap_inv L) (hz : ap_tot L ≤ 48) (hx64 : vp_in x 64) : Met l yX1_moveToCameAgain wsX1_moveToCameAgain ({ frames := 2, cells := 0, slots := 0, locals := 82 }) (va_Pc [.ref (q 0), .int x, .int (nI 4)] (fun U => U.heap.size = sz ∧ va_P (dC, dI) vwCl (cx q ca C L f w d st tg hi mi go) U.heap ∧ va_K (dC, dI) vwCl (kx ca) U ∧ va_D (fun _ => True) (cx q ca C L f w d st tg hi mi go) ∧ va_Nw (.methodLinkNest RX0 23 yX1_isAddress "ArcCache") U)) (va_Qv (fun (u : ap_U) => u = (ap_mv L x 4 2, w, d, st, tg, hi, mi, go)) (at_X dC dI (va_A (cx q ca C L f w d st tg hi mi go) sz) q ca C) (va_A (cx q ca C L f w d st tg hi mi go) sz)) 0 0 (va_A (cx q ca C L f w d st tg hi mi go) sz) := by
  refine Met.ofW (cc := cX1_moveToCameAgain) (maxL := 3) (ret := none) (by decide) rfl ?_
  intro p e s m args below meth c s₁ B hml hv
  obtain ⟨rfl, hsz, hP, hK, hD0, hN⟩ := hv
  have hx := B.exec
  have hb := B.bytes
  have hr := B.returns
  have hts := atoms_spec (ws := wsX1_moveToCameAgain) B.pre
  have hown : s.vm.findClass RX1 = some m.cls := findClass_of_methodNamed B.named
  have hlocks := B.notSynchronized
  have hwX1 : ∀ w ∈ u_ws RX1 TX1 12, w ∈ wsX1_moveToCameAgain := by decide +kernel
  subst hsz
  have hD := hD0.self (sz := s.heap.size)
  generalize hAe : va_A (cx q ca C L f w d st tg hi mi go) s.heap.size = A at hD ⊢
  have hA : ∀ q : Nat, s.heap.size ≤ q → A q := fun q h => by rw [← hAe]; exact Or.inr h
  have hS0 : ∀ H, s.heap = H → va_S A s.heap H [] := fun H h => by subst h; exact va_S.rf
  have hl := lv_entry ([.ref (q 0), .int x, .int (nI 4)]) (n := 3) (Nat.le_of_ble_eq_true rfl)
  rw [lg_entry_eq]
  generalize (lg_sl ([.ref (q 0), .int x, .int (nI 4)]) ++ List.replicate (3 - (lg_sl ([.ref (q 0), .int x, .int (nI 4)])).length) Slot.unset).toArray = ls at hl ⊢
  have hl : lv_has ls 3 [(0, .ref (q 0)), (1, .int x), (2, .int (nI 4))] := hl
  generalize hHe : s.heap = H at hP ⊢
  have hS := hS0 H hHe
  have z1 : (L 1).length ≤ 48 := by unfold ap_tot at hz; omega
  have z2 : (L 2).length ≤ 48 := by unfold ap_tot at hz; omega
  have z3 : (L 3).length ≤ 48 := by unfold ap_tot at hz; omega
  have z4 : (L 4).length ≤ 48 := by unfold ap_tot at hz; omega
  refine lv_aload_n hx hb dX1_moveToCameAgain_0 rfl (lv_at hl 0 rfl) ?_
  refine lv_iload_n hx hb dX1_moveToCameAgain_1 rfl (lv_at hl 2 rfl) ?_
  have hPc := hP.sub (ws' := (cx q ca C L f w d st tg hi mi go)) [0, 1, 2, 3, 4, 5, 6, 7, 8, 9, 10, 11] rfl
  have hDc := hD.sub (ws' := (cx q ca C L f w d st tg hi mi go)) [0, 1, 2, 3, 4, 5, 6, 7, 8, 9, 10, 11] (by decide) rfl
  have hKc := hK.sub (tys' := (kx ca)) [0, 1, 2, 3, 4, 5, 6] rfl
  have hFc := va_free (wc := (cx q ca C L f w d st tg hi mi go)) hD hS hA [0, 1, 2, 3, 4, 5, 6, 7, 8, 9, 10, 11] rfl
  refine va_callr (va_runV (As := [.int (nI 4)]) (rest := []) ⟨hx, hb, hml, hown, hts⟩ (c_X_listNumbered l dC dI q ca C L f w d st tg hi mi go 4 H.size (by decide) (by decide) hf) (cwV 1 hts gX1_moveToCameAgain_X1_listNumbered rfl rfl rfl (by decide +kernel) ⟨Nat.le_of_ble_eq_true rfl, Nat.le_of_ble_eq_true rfl⟩) ⟨fun a U g mk q => by obtain ⟨q0, q1, qP, qK, qD⟩ := q; exact ⟨q0, q1, qP, va_K.moved (u := U) (U := U.calling g mk a) (Vm.Alike.refl U.vm) qK, qD⟩, va_recv hKc hPc (ci := 1) (q0 := 0) rfl rfl, fun U hU hW => ⟨rfl, by rw [hU], by rw [hU]; exact hPc, va_K.moved hW.alike hKc, hDc.weaken (fun _ _ _ _ => trivial)⟩⟩ rfl rfl hl.1 rfl (lv_room (Nat.le_of_ble_eq_true rfl)) dX1_moveToCameAgain_2 ⟨Nat.le_of_ble_eq_true rfl, Nat.le_of_ble_eq_true rfl⟩) hS (fun q _ h => hFc q h) hFc (fun u ra t H1 locs ht hvm hw hB hz1 hk1 hS => ?_)
  obtain ⟨era, f1, hf1, hP1, hK1, hD1⟩ := hB
  rw [ht] at hP1
  subst era
  obtain ⟨f_1, ef_1⟩ : ∃ z, z = f1 := ⟨_, rfl⟩
  rw [← ef_1] at hf1 hP1 hD1
  clear ef_1 f1
  have hfx_2 := hf1
  obtain ⟨hP, hD⟩ := va_join (wr := []) (w1 := (cx q ca C L f_1 w d st tg hi mi go)) hP hD [0, 1, 2, 3, 4, 5, 6, 7, 8, 9, 10, 11] [] rfl rfl (by decide) (by decide) hk1 hFc hP1 hD1
  generalize H1 = H at hP hS ⊢
  replace hP : va_P (dC, dI) vwCl (cx q ca C L f_1 w d st tg hi mi go) H := hP
  replace hD : va_D A (cx q ca C L f_1 w d st tg hi mi go) := hD
  refine lv_iload_n hx hb dX1_moveToCameAgain_5 rfl (lv_at hl 1 rfl) ?_
  have hPc := hP.sub (ws' := (cal (q 4) (q 8) (ca 4) ((L 4).length) (f_1 4))) [7, 8] rfl
  have hDc := hD.sub (ws' := (cal (q 4) (q 8) (ca 4) ((L 4).length) (f_1 4))) [7, 8] (by decide) rfl
  have hKc := hK.sub (tys' := (kal (ca 4))) [3] rfl
  have hFc := va_free (wc := (cal (q 4) (q 8) (ca 4) ((L 4).length) (f_1 4))) hD hS hA [7, 8] rfl
  refine va_callv (va_runV (As := [.int x]) (rest := []) ⟨hx, hb, hml, hown, hts⟩ (c_A_remove l dC dI (q 4) (q 8) (ca 4) (L 4) (f_1 4) x H.size (Nat.le_trans z4 (by decide)) (hfx_2 4 (by decide) (by decide)) (hI.1 4)) (cwV 1 hts gX1_moveToCameAgain_X0_remove rfl rfl rfl (by decide +kernel) ⟨Nat.le_of_ble_eq_true rfl, Nat.le_of_ble_eq_true rfl⟩) ⟨fun a U g mk q => by obtain ⟨q0, q1, qP, qK, qD⟩ := q; exact ⟨q0, q1, qP, va_K.moved (u := U) (U := U.calling g mk a) (Vm.Alike.refl U.vm) qK, qD⟩, va_recv hKc hPc (ci := 0) (q0 := 0) rfl rfl, fun U hU hW => ⟨rfl, by rw [hU], by rw [hU]; exact hPc, va_K.moved hW.alike hKc, hDc.weaken (fun _ _ _ _ => trivial)⟩⟩ rfl rfl hl.1 rfl (lv_room (Nat.le_of_ble_eq_true rfl)) dX1_moveToCameAgain_6 ⟨Nat.le_of_ble_eq_true rfl, Nat.le_of_ble_eq_true rfl⟩) hS (fun q _ h => hFc q h) hFc (fun u t H1 locs ht hvm hw hB hz1 hk1 hS => ?_)
  obtain ⟨n1, f1⟩ := u
  obtain ⟨hP1, hK1, hD1⟩ := hB
  rw [ht] at hP1
  try dsimp only at hw hP1 hD1
  obtain ⟨hn9, hf9⟩ := hw
  subst hn9
  obtain ⟨f_3, ef_3⟩ : ∃ z, z = f1 := ⟨_, rfl⟩
  rw [← ef_3] at hf9 hP1 hD1
  clear ef_3 f1
  have hfx_4 := fx_up (k := 4) hfx_2 hf9
  obtain ⟨hP, hD⟩ := va_join (wr := [(q 0, .inr (1, [.int (nI C), .ref (q 1), .ref (q 2), .ref (q 3), .ref (q 4), .ref (q 9), .ref (q 10), .ref (q 11), .int (nI tg), .int hi, .int mi, .int go])), (q 1, .inr (0, [.ref (q 5), .int (nI ((L 1).length))])), (q 5, .inl (ca 1, 64, .inl (f_1 1))), (q 2, .inr (0, [.ref (q 6), .int (nI ((L 2).length))])), (q 6, .inl (ca 2, 64, .inl (f_1 2))), (q 3, .inr (0, [.ref (q 7), .int (nI ((L 3).length))])), (q 7, .inl (ca 3, 64, .inl (f_1 3))), (q 9, .inl (ca 5, 64, .inl w)), (q 10, .inl (ca 6, 64, .inl d)), (q 11, .inl (ca 7, 64, .inl st))]) (w1 := (cal (q 4) (q 8) (ca 4) ((ap_rm x (L 4)).length) f_3)) hP hD [7, 8] [0, 1, 2, 3, 4, 5, 6, 9, 10, 11] rfl rfl (by decide) (by decide) hk1 hFc hP1 hD1
  generalize H1 = H at hP hS ⊢
  replace hP := hP.sub (ws' := (cx q ca C (va_up L 4 (ap_rm x (L 4))) (va_up f_1 4 f_3) w d st tg hi mi go)) [0, 1, 2, 3, 4, 5, 6, 10, 11, 7, 8, 9] rfl
  replace hD := hD.sub (ws' := (cx q ca C (va_up L 4 (ap_rm x (L 4))) (va_up f_1 4 f_3) w d st tg hi mi go)) [0, 1, 2, 3, 4, 5, 6, 10, 11, 7, 8, 9] (by decide) rfl
  refine lv_aload_n hx hb dX1_moveToCameAgain_9 rfl (lv_at hl 0 rfl) ?_
  refine va_get (D := (dC, dI)) (ci := 1) (v := .ref (q 2)) (C := RX1) (T := TX1) (N := 12) hx hb hts hwX1 hown hK hP 0 rfl rfl 2 (by decide) (hts (.fieldLink RX1 16 "ArcCache" "cameAgain" "LArcCache$AddressList;") (by decide +kernel)) (fun _ h9 => h9) rfl dX1_moveToCameAgain_10 ?_
  refine lv_iload_n hx hb dX1_moveToCameAgain_13 rfl (lv_at hl 1 rfl) ?_
  have hln9 : (L 2).length < 64 := by omega
  have hPc := hP.sub (ws' := (cal (q 2) (q 6) (ca 2) (((va_up L 4 (ap_rm x (L 4))) 2).length) ((va_up f_1 4 f_3) 2))) [3, 4] rfl
  have hDc := hD.sub (ws' := (cal (q 2) (q 6) (ca 2) (((va_up L 4 (ap_rm x (L 4))) 2).length) ((va_up f_1 4 f_3) 2))) [3, 4] (by decide) rfl
  have hKc := hK.sub (tys' := (kal (ca 2))) [1] rfl
  have hFc := va_free (wc := (cal (q 2) (q 6) (ca 2) (((va_up L 4 (ap_rm x (L 4))) 2).length) ((va_up f_1 4 f_3) 2))) hD hS hA [3, 4] rfl
  refine va_callv (va_runV (As := [.int x]) (rest := []) ⟨hx, hb, hml, hown, hts⟩ (c_A_addNewest l dC dI (q 2) (q 6) (ca 2) ((va_up L 4 (ap_rm x (L 4))) 2) ((va_up f_1 4 f_3) 2) x H.size hln9 (hfx_4 2 (by decide) (by decide))) (cwV 1 hts gX1_moveToCameAgain_X0_addNewest rfl rfl rfl (by decide +kernel) ⟨Nat.le_of_ble_eq_true rfl, Nat.le_of_ble_eq_true rfl⟩) ⟨fun a U g mk q => by obtain ⟨q0, q1, qP, qK, qD, qN⟩ := q; exact ⟨q0, q1, qP, va_K.moved (u := U) (U := U.calling g mk a) (Vm.Alike.refl U.vm) qK, qD, va_tabs rfl (rfl : U.vm = (U.calling g mk a).vm) qN⟩, va_recv hKc hPc (ci := 0) (q0 := 0) rfl rfl, fun U hU hW => ⟨rfl, by rw [hU], by rw [hU]; exact hPc, va_K.moved hW.alike hKc, hDc.weaken (fun _ _ _ _ => trivial), va_Nw.warmM hW hN⟩⟩ rfl rfl hl.1 rfl (lv_room (Nat.le_of_ble_eq_true rfl)) dX1_moveToCameAgain_14 ⟨Nat.le_of_ble_eq_true rfl, Nat.le_of_ble_eq_true rfl⟩) hS (fun q _ h => hFc q h) hFc (fun u t H1 locs ht hvm hw hB hz1 hk1 hS => ?_)
  obtain ⟨n1, f1⟩ := u
  obtain ⟨hP1, hK1, hD1⟩ := hB
  rw [ht] at hP1
  try dsimp only at hw hP1 hD1
  rw [al_add_in hx64] at hw
  obtain ⟨hn9, hf9⟩ := hw
  subst hn9
  obtain ⟨f_5, ef_5⟩ : ∃ z, z = f1 := ⟨_, rfl⟩
  rw [← ef_5] at hf9 hP1 hD1
  clear ef_5 f1
  have hfx_6 := fx_up (k := 2) hfx_4 hf9
  obtain ⟨hP, hD⟩ := va_join (wr := [(q 0, .inr (1, [.int (nI C), .ref (q 1), .ref (q 2), .ref (q 3), .ref (q 4), .ref (q 9), .ref (q 10), .ref (q 11), .int (nI tg), .int hi, .int mi, .int go])), (q 1, .inr (0, [.ref (q 5), .int (nI (((va_up L 4 (ap_rm x (L 4))) 1).length))])), (q 5, .inl (ca 1, 64, .inl ((va_up f_1 4 f_3) 1))), (q 3, .inr (0, [.ref (q 7), .int (nI (((va_up L 4 (ap_rm x (L 4))) 3).length))])), (q 7, .inl (ca 3, 64, .inl ((va_up f_1 4 f_3) 3))), (q 4, .inr (0, [.ref (q 8), .int (nI (((va_up L 4 (ap_rm x (L 4))) 4).length))])), (q 8, .inl (ca 4, 64, .inl ((va_up f_1 4 f_3) 4))), (q 9, .inl (ca 5, 64, .inl w)), (q 10, .inl (ca 6, 64, .inl d)), (q 11, .inl (ca 7, 64, .inl st))]) (w1 := (cal (q 2) (q 6) (ca 2) ((x :: (va_up L 4 (ap_rm x (L 4))) 2).length) f_5)) hP hD [3, 4] [0, 1, 2, 5, 6, 7, 8, 9, 10, 11] rfl rfl (by decide) (by decide) hk1 hFc hP1 hD1
  generalize H1 = H at hP hS ⊢
  replace hP := hP.sub (ws' := (cx q ca C (va_up (va_up L 4 (ap_rm x (L 4))) 2 (x :: (va_up L 4 (ap_rm x (L 4))) 2)) (va_up (va_up f_1 4 f_3) 2 f_5) w d st tg hi mi go)) [0, 1, 2, 10, 11, 3, 4, 5, 6, 7, 8, 9] rfl
  replace hD := hD.sub (ws' := (cx q ca C (va_up (va_up L 4 (ap_rm x (L 4))) 2 (x :: (va_up L 4 (ap_rm x (L 4))) 2)) (va_up (va_up f_1 4 f_3) 2 f_5) w d st tg hi mi go)) [0, 1, 2, 10, 11, 3, 4, 5, 6, 7, 8, 9] (by decide) rfl
  exact W.vret hx hb hr (fun t ht hW => ⟨⟨(ap_mv L x 4 2, w, d, st, tg, hi, mi, go), rfl, rfl, va_up (va_up f_1 4 f_3) 2 f_5, hfx_6, by rw [ht]; exact hP, va_K.moved hW.alike hK, hD⟩, hS.F ht⟩) hS.2.2 dX1_moveToCameAgain_17
set_option maxHeartbeats 4000000 in
set_option maxRecDepth 100000 in
theorem c_X_old1 (l : Launch) (dC : Nat → ClassId) (dI : Nat → Nat → Nat) (q : Nat → Nat) (ca : Nat → ClassId) (C : Nat) (L : Nat → List Int32) (f : Nat → Nat → Int32) (w d st : Nat → Int32) (tg : Nat) (hi mi go : Int32)  (sz : Nat) (hf : fx_ok f L) (hI : ap_inv L) (hz : ap_tot L ≤ 48) (he : L 1 ≠ []) : Met l yX1_oldestGoes wsX1_oldestGoes ({ frames := 2, cells := 0, slots := 0, locals := 82 }) (va_Pc [.ref (q 0), .ref (q 1), .ref (q 3)] (fun U => U.heap.size = sz ∧ va_P (dC, dI) vwCl (cx q ca C L f w d st tg hi mi go) U.heap ∧ va_K (dC, dI) vwCl (kx ca) U ∧ va_D (fun _ => True) (cx q ca C L f w d st tg hi mi go) ∧ va_Nw (.methodLinkNest RX0 23 yX1_isAddress "ArcCache") U)) (va_Qv (fun (u : ap_U) => u = (ap_mv L (ap_old (L 1)) 1 3, w, ap_cd d (ap_old (L 1)), ap_cs w d st (ap_old (L 1)), tg, hi, mi, go + 1)) (at_X dC dI (va_A (cx q ca C L f w d st tg hi mi go) sz) q ca C) (va_A (cx q ca C L f w d st tg hi mi go) sz)) 0 0 (va_A (cx q ca C L f w d st tg hi mi go) sz) := by
  refine Met.ofW (cc := cX1_oldestGoes) (maxL := 4) (ret := none) (by decide) rfl ?_
  intro p e s m args below meth c s₁ B hml hv
  obtain ⟨rfl, hsz, hP, hK, hD0, hN⟩ := hv
  have hx := B.exec
  have hb := B.bytes
  have hr := B.returns
  have hts := atoms_spec (ws := wsX1_oldestGoes) B.pre
  have hown : s.vm.findClass RX1 = some m.cls := findClass_of_methodNamed B.named
  have hlocks := B.notSynchronized
  have hwX1 : ∀ w ∈ u_ws RX1 TX1 12, w ∈ wsX1_oldestGoes := by decide +kernel
  subst hsz
  have hD := hD0.self (sz := s.heap.size)
  generalize hAe : va_A (cx q ca C L f w d st tg hi mi go) s.heap.size = A at hD ⊢
  have hA : ∀ q : Nat, s.heap.size ≤ q → A q := fun q h => by rw [← hAe]; exact Or.inr h
  have hS0 : ∀ H, s.heap = H → va_S A s.heap H [] := fun H h => by subst h; exact va_S.rf
  have hl := lv_entry ([.ref (q 0), .ref (q 1), .ref (q 3)]) (n := 4) (Nat.le_of_ble_eq_true rfl)
  rw [lg_entry_eq]
  generalize (lg_sl ([.ref (q 0), .ref (q 1), .ref (q 3)]) ++ List.replicate (4 - (lg_sl ([.ref (q 0), .ref (q 1), .ref (q 3)])).length) Slot.unset).toArray = ls at hl ⊢
  have hl : lv_has ls 4 [(0, .ref (q 0)), (1, .ref (q 1)), (2, .ref (q 3))] := hl
  generalize hHe : s.heap = H at hP ⊢
  have hS := hS0 H hHe
  have z1 : (L 1).length ≤ 48 := by unfold ap_tot at hz; omega
  have z2 : (L 2).length ≤ 48 := by unfold ap_tot at hz; omega
  have z3 : (L 3).length ≤ 48 := by unfold ap_tot at hz; omega
  have z4 : (L 4).length ≤ 48 := by unfold ap_tot at hz; omega
  have hx64 : vp_in (ap_old (L 1)) 64 := ap_old_in hI he
  refine lv_aload_n hx hb dX1_oldestGoes_0 rfl (lv_at hl 1 rfl) ?_
  have hPc := hP.sub (ws' := (cal (q 1) (q 5) (ca 1) ((L 1).length) (f 1))) [1, 2] rfl
  have hDc := hD.sub (ws' := (cal (q 1) (q 5) (ca 1) ((L 1).length) (f 1))) [1, 2] (by decide) rfl
  have hKc := hK.sub (tys' := (kal (ca 1))) [0] rfl
  have hFc := va_free (wc := (cal (q 1) (q 5) (ca 1) ((L 1).length) (f 1))) hD hS hA [1, 2] rfl
  refine va_calli (va_runV (As := []) (rest := []) ⟨hx, hb, hml, hown, hts⟩ (c_A_oldest l dC dI (q 1) (q 5) (ca 1) (L 1) (f 1) H.size (Nat.le_trans z1 (by decide)) (hf 1 (by decide) (by decide))) (cwV 0 hts gX1_oldestGoes_X0_oldest rfl rfl rfl (by decide +kernel) ⟨Nat.le_of_ble_eq_true rfl, Nat.le_of_ble_eq_true rfl⟩) ⟨fun a U g mk q => by obtain ⟨q0, q1, qP, qK, qD⟩ := q; exact ⟨q0, q1, qP, va_K.moved (u := U) (U := U.calling g mk a) (Vm.Alike.refl U.vm) qK, qD⟩, va_recv hKc hPc (ci := 0) (q0 := 0) rfl rfl, fun U hU hW => ⟨rfl, by rw [hU], by rw [hU]; exact hPc, va_K.moved hW.alike hKc, hDc.weaken (fun _ _ _ _ => trivial)⟩⟩ rfl rfl hl.1 rfl (lv_room (Nat.le_of_ble_eq_true rfl)) dX1_oldestGoes_1 ⟨Nat.le_of_ble_eq_true rfl, Nat.le_of_ble_eq_true rfl⟩) hS (fun q _ h => hFc q h) hFc (fun r u t H1 locs ht hvm hw hB hz1 hk1 hS => ?_)
  obtain ⟨n1, f1⟩ := u
  obtain ⟨hP1, hK1, hD1⟩ := hB
  rw [ht] at hP1
  try dsimp only at hw hP1 hD1
  obtain ⟨hr9, hu⟩ := hw
  cases hu
  obtain ⟨hP, hD⟩ := va_join (wr := [(q 0, .inr (1, [.int (nI C), .ref (q 1), .ref (q 2), .ref (q 3), .ref (q 4), .ref (q 9), .ref (q 10), .ref (q 11), .int (nI tg), .int hi, .int mi, .int go])), (q 2, .inr (0, [.ref (q 6), .int (nI ((L 2).length))])), (q 6, .inl (ca 2, 64, .inl (f 2))), (q 3, .inr (0, [.ref (q 7), .int (nI ((L 3).length))])), (q 7, .inl (ca 3, 64, .inl (f 3))), (q 4, .inr (0, [.ref (q 8), .int (nI ((L 4).length))])), (q 8, .inl (ca 4, 64, .inl (f 4))), (q 9, .inl (ca 5, 64, .inl w)), (q 10, .inl (ca 6, 64, .inl d)), (q 11, .inl (ca 7, 64, .inl st))]) (w1 := (cal (q 1) (q 5) (ca 1) ((L 1).length) (f 1))) hP hD [1, 2] [0, 3, 4, 5, 6, 7, 8, 9, 10, 11] rfl rfl (by decide) (by decide) hk1 hFc hP1 hD1
  generalize H1 = H at hP hS ⊢
  replace hP := hP.sub (ws' := (cx q ca C L f w d st tg hi mi go)) [0, 10, 11, 1, 2, 3, 4, 5, 6, 7, 8, 9] rfl
  replace hD := hD.sub (ws' := (cx q ca C L f w d st tg hi mi go)) [0, 10, 11, 1, 2, 3, 4, 5, 6, 7, 8, 9] (by decide) rfl
  subst hr9
  refine lv_istore_n (lv' := [(3, .int (ap_old (L 1))), (0, .ref (q 0)), (1, .ref (q 1)), (2, .ref (q 3))]) hx hb dX1_oldestGoes_4 rfl hl (by decide) rfl (fun ls hl => ?_)
  refine lv_aload_n hx hb dX1_oldestGoes_5 rfl (lv_at hl 1 rfl) ?_
  refine lv_iload_n hx hb dX1_oldestGoes_6 rfl (lv_at hl 0 rfl) ?_
  have hPc := hP.sub (ws' := (cx q ca C L f w d st tg hi mi go)) [0, 1, 2, 3, 4, 5, 6, 7, 8, 9, 10, 11] rfl
  have hDc := hD.sub (ws' := (cx q ca C L f w d st tg hi mi go)) [0, 1, 2, 3, 4, 5, 6, 7, 8, 9, 10, 11] (by decide) rfl
  have hKc := hK.sub (tys' := (kx ca)) [0, 1, 2, 3, 4, 5, 6] rfl
  have hFc := va_free (wc := (cx q ca C L f w d st tg hi mi go)) hD hS hA [0, 1, 2, 3, 4, 5, 6, 7, 8, 9, 10, 11] rfl
  refine va_callv (va_runV (As := [.int (ap_old (L 1))]) (rest := []) ⟨hx, hb, hml, hown, hts⟩ (c_X_pageGoes l dC dI q ca C L f w d st tg hi mi go (ap_old (L 1)) H.size hf hx64) (cwV 1 hts gX1_oldestGoes_X1_pageGoes rfl rfl rfl (by decide +kernel) ⟨Nat.le_of_ble_eq_true rfl, Nat.le_of_ble_eq_true rfl⟩) ⟨fun a U g mk q => by obtain ⟨q0, q1, qP, qK, qD⟩ := q; exact ⟨q0, q1, qP, va_K.moved (u := U) (U := U.calling g mk a) (Vm.Alike.refl U.vm) qK, qD⟩, va_recv hKc hPc (ci := 1) (q0 := 0) rfl rfl, fun U hU hW => ⟨rfl, by rw [hU], by rw [hU]; exact hPc, va_K.moved hW.alike hKc, hDc.weaken (fun _ _ _ _ => trivial)⟩⟩ rfl rfl hl.1 rfl (lv_room (Nat.le_of_ble_eq_true rfl)) dX1_oldestGoes_7 ⟨Nat.le_of_ble_eq_true rfl, Nat.le_of_ble_eq_true rfl⟩) hS (fun q _ h => hFc q h) hFc (fun u t H1 locs ht hvm hw hB hz1 hk1 hS => ?_)
  obtain ⟨L1, w1, d1, st1, tg1, hi1, mi1, go1⟩ := u
  obtain ⟨f1, hf1, hP1, hK1, hD1⟩ := hB
  rw [ht] at hP1
  cases hw
  obtain ⟨f_1, ef_1⟩ : ∃ z, z = f1 := ⟨_, rfl⟩
  rw [← ef_1] at hf1 hP1 hD1
  clear ef_1 f1
  have hfx_2 := hf1
  obtain ⟨hP, hD⟩ := va_join (wr := []) (w1 := (cx q ca C L f_1 w (ap_cd d (ap_old (L 1))) (ap_cs w d st (ap_old (L 1))) tg hi mi (go + 1))) hP hD [0, 1, 2, 3, 4, 5, 6, 7, 8, 9, 10, 11] [] rfl rfl (by decide) (by decide) hk1 hFc hP1 hD1
  generalize H1 = H at hP hS ⊢
  replace hP : va_P (dC, dI) vwCl (cx q ca C L f_1 w (ap_cd d (ap_old (L 1))) (ap_cs w d st (ap_old (L 1))) tg hi mi (go + 1)) H := hP
  replace hD : va_D A (cx q ca C L f_1 w (ap_cd d (ap_old (L 1))) (ap_cs w d st (ap_old (L 1))) tg hi mi (go + 1)) := hD
  refine lv_aload_n hx hb dX1_oldestGoes_10 rfl (lv_at hl 2 rfl) ?_
  refine lv_iload_n hx hb dX1_oldestGoes_11 rfl (lv_at hl 0 rfl) ?_
  have hPc := hP.sub (ws' := (cal (q 1) (q 5) (ca 1) ((L 1).length) (f_1 1))) [1, 2] rfl
  have hDc := hD.sub (ws' := (cal (q 1) (q 5) (ca 1) ((L 1).length) (f_1 1))) [1, 2] (by decide) rfl
  have hKc := hK.sub (tys' := (kal (ca 1))) [0] rfl
  have hFc := va_free (wc := (cal (q 1) (q 5) (ca 1) ((L 1).length) (f_1 1))) hD hS hA [1, 2] rfl
  refine va_callv (va_runV (As := [.int (ap_old (L 1))]) (rest := []) ⟨hx, hb, hml, hown, hts⟩ (c_A_remove l dC dI (q 1) (q 5) (ca 1) (L 1) (f_1 1) (ap_old (L 1)) H.size (Nat.le_trans z1 (by decide)) (hfx_2 1 (by decide) (by decide)) (hI.1 1)) (cwV 1 hts gX1_oldestGoes_X0_remove rfl rfl rfl (by decide +kernel) ⟨Nat.le_of_ble_eq_true rfl, Nat.le_of_ble_eq_true rfl⟩) ⟨fun a U g mk q => by obtain ⟨q0, q1, qP, qK, qD⟩ := q; exact ⟨q0, q1, qP, va_K.moved (u := U) (U := U.calling g mk a) (Vm.Alike.refl U.vm) qK, qD⟩, va_recv hKc hPc (ci := 0) (q0 := 0) rfl rfl, fun U hU hW => ⟨rfl, by rw [hU], by rw [hU]; exact hPc, va_K.moved hW.alike hKc, hDc.weaken (fun _ _ _ _ => trivial)⟩⟩ rfl rfl hl.1 rfl (lv_room (Nat.le_of_ble_eq_true rfl)) dX1_oldestGoes_12 ⟨Nat.le_of_ble_eq_true rfl, Nat.le_of_ble_eq_true rfl⟩) hS (fun q _ h => hFc q h) hFc (fun u t H1 locs ht hvm hw hB hz1 hk1 hS => ?_)
  obtain ⟨n1, f1⟩ := u
  obtain ⟨hP1, hK1, hD1⟩ := hB
  rw [ht] at hP1
  try dsimp only at hw hP1 hD1
  obtain ⟨hn9, hf9⟩ := hw
  subst hn9
  obtain ⟨f_3, ef_3⟩ : ∃ z, z = f1 := ⟨_, rfl⟩
  rw [← ef_3] at hf9 hP1 hD1
  clear ef_3 f1
  have hfx_4 := fx_up (k := 1) hfx_2 hf9
  obtain ⟨hP, hD⟩ := va_join (wr := [(q 0, .inr (1, [.int (nI C), .ref (q 1), .ref (q 2), .ref (q 3), .ref (q 4), .ref (q 9), .ref (q 10), .ref (q 11), .int (nI tg), .int hi, .int mi, .int (go + 1)])), (q 2, .inr (0, [.ref (q 6), .int (nI ((L 2).length))])), (q 6, .inl (ca 2, 64, .inl (f_1 2))), (q 3, .inr (0, [.ref (q 7), .int (nI ((L 3).length))])), (q 7, .inl (ca 3, 64, .inl (f_1 3))), (q 4, .inr (0, [.ref (q 8), .int (nI ((L 4).length))])), (q 8, .inl (ca 4, 64, .inl (f_1 4))), (q 9, .inl (ca 5, 64, .inl w)), (q 10, .inl (ca 6, 64, .inl (ap_cd d (ap_old (L 1))))), (q 11, .inl (ca 7, 64, .inl (ap_cs w d st (ap_old (L 1)))))]) (w1 := (cal (q 1) (q 5) (ca 1) ((ap_rm (ap_old (L 1)) (L 1)).length) f_3)) hP hD [1, 2] [0, 3, 4, 5, 6, 7, 8, 9, 10, 11] rfl rfl (by decide) (by decide) hk1 hFc hP1 hD1
  generalize H1 = H at hP hS ⊢
  replace hP := hP.sub (ws' := (cx q ca C (va_up L 1 (ap_rm (ap_old (L 1)) (L 1))) (va_up f_1 1 f_3) w (ap_cd d (ap_old (L 1))) (ap_cs w d st (ap_old (L 1))) tg hi mi (go + 1))) [0, 10, 11, 1, 2, 3, 4, 5, 6, 7, 8, 9] rfl
  replace hD := hD.sub (ws' := (cx q ca C (va_up L 1 (ap_rm (ap_old (L 1)) (L 1))) (va_up f_1 1 f_3) w (ap_cd d (ap_old (L 1))) (ap_cs w d st (ap_old (L 1))) tg hi mi (go + 1))) [0, 10, 11, 1, 2, 3, 4, 5, 6, 7, 8, 9] (by decide) rfl
  refine lv_aload_n hx hb dX1_oldestGoes_15 rfl (lv_at hl 3 rfl) ?_
  refine lv_iload_n hx hb dX1_oldestGoes_16 rfl (lv_at hl 0 rfl) ?_
  have hPc := hP.sub (ws' := (cal (q 3) (q 7) (ca 3) (((va_up L 1 (ap_rm (ap_old (L 1)) (L 1))) 3).length) ((va_up f_1 1 f_3) 3))) [5, 6] rfl
  have hDc := hD.sub (ws' := (cal (q 3) (q 7) (ca 3) (((va_up L 1 (ap_rm (ap_old (L 1)) (L 1))) 3).length) ((va_up f_1 1 f_3) 3))) [5, 6] (by decide) rfl
  have hKc := hK.sub (tys' := (kal (ca 3))) [2] rfl
  have hFc := va_free (wc := (cal (q 3) (q 7) (ca 3) (((va_up L 1 (ap_rm (ap_old (L 1)) (L 1))) 3).length) ((va_up f_1 1 f_3) 3))) hD hS hA [5, 6] rfl
  refine va_callv (va_runV (As := [.int (ap_old (L 1))]) (rest := []) ⟨hx, hb, hml, hown, hts⟩ (c_A_addNewest l dC dI (q 3) (q 7) (ca 3) ((va_up L 1 (ap_rm (ap_old (L 1)) (L 1))) 3) ((va_up f_1 1 f_3) 3) (ap_old (L 1)) H.size (Nat.lt_of_le_of_lt z3 (by decide)) (hfx_4 3 (by decide) (by decide))) (cwV 1 hts gX1_oldestGoes_X0_addNewest rfl rfl rfl (by decide +kernel) ⟨Nat.le_of_ble_eq_true rfl, Nat.le_of_ble_eq_true rfl⟩) ⟨fun a U g mk q => by obtain ⟨q0, q1, qP, qK, qD, qN⟩ := q; exact ⟨q0, q1, qP, va_K.moved (u := U) (U := U.calling g mk a) (Vm.Alike.refl U.vm) qK, qD, va_tabs rfl (rfl : U.vm = (U.calling g mk a).vm) qN⟩, va_recv hKc hPc (ci := 0) (q0 := 0) rfl rfl, fun U hU hW => ⟨rfl, by rw [hU], by rw [hU]; exact hPc, va_K.moved hW.alike hKc, hDc.weaken (fun _ _ _ _ => trivial), va_Nw.warmM hW hN⟩⟩ rfl rfl hl.1 rfl (lv_room (Nat.le_of_ble_eq_true rfl)) dX1_oldestGoes_17 ⟨Nat.le_of_ble_eq_true rfl, Nat.le_of_ble_eq_true rfl⟩) hS (fun q _ h => hFc q h) hFc (fun u t H1 locs ht hvm hw hB hz1 hk1 hS => ?_)
  obtain ⟨n1, f1⟩ := u
  obtain ⟨hP1, hK1, hD1⟩ := hB
  rw [ht] at hP1
  try dsimp only at hw hP1 hD1
  rw [al_add_in hx64] at hw
  obtain ⟨hn9, hf9⟩ := hw
  subst hn9
  obtain ⟨f_5, ef_5⟩ : ∃ z, z = f1 := ⟨_, rfl⟩
  rw [← ef_5] at hf9 hP1 hD1
  clear ef_5 f1
  have hfx_6 := fx_up (k := 3) hfx_4 hf9
  obtain ⟨hP, hD⟩ := va_join (wr := [(q 0, .inr (1, [.int (nI C), .ref (q 1), .ref (q 2), .ref (q 3), .ref (q 4), .ref (q 9), .ref (q 10), .ref (q 11), .int (nI tg), .int hi, .int mi, .int (go + 1)])), (q 1, .inr (0, [.ref (q 5), .int (nI (((va_up L 1 (ap_rm (ap_old (L 1)) (L 1))) 1).length))])), (q 5, .inl (ca 1, 64, .inl ((va_up f_1 1 f_3) 1))), (q 2, .inr (0, [.ref (q 6), .int (nI (((va_up L 1 (ap_rm (ap_old (L 1)) (L 1))) 2).length))])), (q 6, .inl (ca 2, 64, .inl ((va_up f_1 1 f_3) 2))), (q 4, .inr (0, [.ref (q 8), .int (nI (((va_up L 1 (ap_rm (ap_old (L 1)) (L 1))) 4).length))])), (q 8, .inl (ca 4, 64, .inl ((va_up f_1 1 f_3) 4))), (q 9, .inl (ca 5, 64, .inl w)), (q 10, .inl (ca 6, 64, .inl (ap_cd d (ap_old (L 1))))), (q 11, .inl (ca 7, 64, .inl (ap_cs w d st (ap_old (L 1)))))]) (w1 := (cal (q 3) (q 7) (ca 3) (((ap_old (L 1)) :: (va_up L 1 (ap_rm (ap_old (L 1)) (L 1))) 3).length) f_5)) hP hD [5, 6] [0, 1, 2, 3, 4, 7, 8, 9, 10, 11] rfl rfl (by decide) (by decide) hk1 hFc hP1 hD1
  generalize H1 = H at hP hS ⊢
  replace hP := hP.sub (ws' := (cx q ca C (va_up (va_up L 1 (ap_rm (ap_old (L 1)) (L 1))) 3 ((ap_old (L 1)) :: (va_up L 1 (ap_rm (ap_old (L 1)) (L 1))) 3)) (va_up (va_up f_1 1 f_3) 3 f_5) w (ap_cd d (ap_old (L 1))) (ap_cs w d st (ap_old (L 1))) tg hi mi (go + 1))) [0, 1, 2, 3, 4, 10, 11, 5, 6, 7, 8, 9] rfl
  replace hD := hD.sub (ws' := (cx q ca C (va_up (va_up L 1 (ap_rm (ap_old (L 1)) (L 1))) 3 ((ap_old (L 1)) :: (va_up L 1 (ap_rm (ap_old (L 1)) (L 1))) 3)) (va_up (va_up f_1 1 f_3) 3 f_5) w (ap_cd d (ap_old (L 1))) (ap_cs w d st (ap_old (L 1))) tg hi mi (go + 1))) [0, 1, 2, 3, 4, 10, 11, 5, 6, 7, 8, 9] (by decide) rfl
  exact W.vret hx hb hr (fun t ht hW => ⟨⟨(ap_mv L (ap_old (L 1)) 1 3, w, ap_cd d (ap_old (L 1)), ap_cs w d st (ap_old (L 1)), tg, hi, mi, go + 1), rfl, rfl, va_up (va_up f_1 1 f_3) 3 f_5, hfx_6, by rw [ht]; exact hP, va_K.moved hW.alike hK, hD⟩, hS.F ht⟩) hS.2.2 dX1_oldestGoes_20
set_option maxHeartbeats 4000000 in
set_option maxRecDepth 100000 in
theorem c_X_old1e (l : Launch) (dC : Nat → ClassId) (dI : Nat → Nat → Nat) (q : Nat → Nat) (ca : Nat → ClassId) (C : Nat) (L : Nat → List Int32) (f : Nat → Nat → Int32) (w d st : Nat → Int32) (tg : Nat) (hi mi go : Int32)  (sz : Nat) (hf : fx_ok f L) (hI : ap_inv L) (hz : ap_tot L ≤ 48) (he : L 1 = []) : Met l yX1_oldestGoes wsX1_oldestGoes ({ frames := 2, cells := 0, slots := 0, locals := 82 }) (va_Pc [.ref (q 0), .ref (q 1), .ref (q 3)] (fun U => U.heap.size = sz ∧ va_P (dC, dI) vwCl (cx q ca C L f w d st tg hi mi go) U.heap ∧ va_K (dC, dI) vwCl (kx ca) U ∧ va_D (fun _ => True) (cx q ca C L f w d st tg hi mi go) ∧ va_Nw (.methodLinkNest RX0 23 yX1_isAddress "ArcCache") U)) (va_Qv (fun (u : ap_U) => u = (L, w, d, st, tg, hi, mi, go)) (at_X dC dI (va_A (cx q ca C L f w d st tg hi mi go) sz) q ca C) (va_A (cx q ca C L f w d st tg hi mi go) sz)) 0 0 (va_A (cx q ca C L f w d st tg hi mi go) sz) := by
  refine Met.ofW (cc := cX1_oldestGoes) (maxL := 4) (ret := none) (by decide) rfl ?_
  intro p e s m args below meth c s₁ B hml hv
  obtain ⟨rfl, hsz, hP, hK, hD0, hN⟩ := hv
  have hx := B.exec
  have hb := B.bytes
  have hr := B.returns
  have hts := atoms_spec (ws := wsX1_oldestGoes) B.pre
  have hown : s.vm.findClass RX1 = some m.cls := findClass_of_methodNamed B.named
  have hlocks := B.notSynchronized
  have hwX1 : ∀ w ∈ u_ws RX1 TX1 12, w ∈ wsX1_oldestGoes := by decide +kernel
  subst hsz
  have hD := hD0.self (sz := s.heap.size)
  generalize hAe : va_A (cx q ca C L f w d st tg hi mi go) s.heap.size = A at hD ⊢
  have hA : ∀ q : Nat, s.heap.size ≤ q → A q := fun q h => by rw [← hAe]; exact Or.inr h
  have hS0 : ∀ H, s.heap = H → va_S A s.heap H [] := fun H h => by subst h; exact va_S.rf
  have hl := lv_entry ([.ref (q 0), .ref (q 1), .ref (q 3)]) (n := 4) (Nat.le_of_ble_eq_true rfl)
  rw [lg_entry_eq]
  generalize (lg_sl ([.ref (q 0), .ref (q 1), .ref (q 3)]) ++ List.replicate (4 - (lg_sl ([.ref (q 0), .ref (q 1), .ref (q 3)])).length) Slot.unset).toArray = ls at hl ⊢
  have hl : lv_has ls 4 [(0, .ref (q 0)), (1, .ref (q 1)), (2, .ref (q 3))] := hl
  generalize hHe : s.heap = H at hP ⊢
  have hS := hS0 H hHe
  have z1 : (L 1).length ≤ 48 := by unfold ap_tot at hz; omega
  have z2 : (L 2).length ≤ 48 := by unfold ap_tot at hz; omega
  have z3 : (L 3).length ≤ 48 := by unfold ap_tot at hz; omega
  have z4 : (L 4).length ≤ 48 := by unfold ap_tot at hz; omega
  have hold9 : ap_old (L 1) = -1 := by rw [he]; rfl
  refine lv_aload_n hx hb dX1_oldestGoes_0 rfl (lv_at hl 1 rfl) ?_
  have hPc := hP.sub (ws' := (cal (q 1) (q 5) (ca 1) ((L 1).length) (f 1))) [1, 2] rfl
  have hDc := hD.sub (ws' := (cal (q 1) (q 5) (ca 1) ((L 1).length) (f 1))) [1, 2] (by decide) rfl
  have hKc := hK.sub (tys' := (kal (ca 1))) [0] rfl
  have hFc := va_free (wc := (cal (q 1) (q 5) (ca 1) ((L 1).length) (f 1))) hD hS hA [1, 2] rfl
  refine va_calli (va_runV (As := []) (rest := []) ⟨hx, hb, hml, hown, hts⟩ (c_A_oldest l dC dI (q 1) (q 5) (ca 1) (L 1) (f 1) H.size (Nat.le_trans z1 (by decide)) (hf 1 (by decide) (by decide))) (cwV 0 hts gX1_oldestGoes_X0_oldest rfl rfl rfl (by decide +kernel) ⟨Nat.le_of_ble_eq_true rfl, Nat.le_of_ble_eq_true rfl⟩) ⟨fun a U g mk q => by obtain ⟨q0, q1, qP, qK, qD⟩ := q; exact ⟨q0, q1, qP, va_K.moved (u := U) (U := U.calling g mk a) (Vm.Alike.refl U.vm) qK, qD⟩, va_recv hKc hPc (ci := 0) (q0 := 0) rfl rfl, fun U hU hW => ⟨rfl, by rw [hU], by rw [hU]; exact hPc, va_K.moved hW.alike hKc, hDc.weaken (fun _ _ _ _ => trivial)⟩⟩ rfl rfl hl.1 rfl (lv_room (Nat.le_of_ble_eq_true rfl)) dX1_oldestGoes_1 ⟨Nat.le_of_ble_eq_true rfl, Nat.le_of_ble_eq_true rfl⟩) hS (fun q _ h => hFc q h) hFc (fun r u t H1 locs ht hvm hw hB hz1 hk1 hS => ?_)
  obtain ⟨n1, f1⟩ := u
  obtain ⟨hP1, hK1, hD1⟩ := hB
  rw [ht] at hP1
  try dsimp only at hw hP1 hD1
  obtain ⟨hr9, hu⟩ := hw
  cases hu
  obtain ⟨hP, hD⟩ := va_join (wr := [(q 0, .inr (1, [.int (nI C), .ref (q 1), .ref (q 2), .ref (q 3), .ref (q 4), .ref (q 9), .ref (q 10), .ref (q 11), .int (nI tg), .int hi, .int mi, .int go])), (q 2, .inr (0, [.ref (q 6), .int (nI ((L 2).length))])), (q 6, .inl (ca 2, 64, .inl (f 2))), (q 3, .inr (0, [.ref (q 7), .int (nI ((L 3).length))])), (q 7, .inl (ca 3, 64, .inl (f 3))), (q 4, .inr (0, [.ref (q 8), .int (nI ((L 4).length))])), (q 8, .inl (ca 4, 64, .inl (f 4))), (q 9, .inl (ca 5, 64, .inl w)), (q 10, .inl (ca 6, 64, .inl d)), (q 11, .inl (ca 7, 64, .inl st))]) (w1 := (cal (q 1) (q 5) (ca 1) ((L 1).length) (f 1))) hP hD [1, 2] [0, 3, 4, 5, 6, 7, 8, 9, 10, 11] rfl rfl (by decide) (by decide) hk1 hFc hP1 hD1
  generalize H1 = H at hP hS ⊢
  replace hP := hP.sub (ws' := (cx q ca C L f w d st tg hi mi go)) [0, 10, 11, 1, 2, 3, 4, 5, 6, 7, 8, 9] rfl
  replace hD := hD.sub (ws' := (cx q ca C L f w d st tg hi mi go)) [0, 10, 11, 1, 2, 3, 4, 5, 6, 7, 8, 9] (by decide) rfl
  rw [hold9] at hr9
  subst hr9
  refine lv_istore_n (lv' := [(3, .int (-1)), (0, .ref (q 0)), (1, .ref (q 1)), (2, .ref (q 3))]) hx hb dX1_oldestGoes_4 rfl hl (by decide) rfl (fun ls hl => ?_)
  refine lv_aload_n hx hb dX1_oldestGoes_5 rfl (lv_at hl 1 rfl) ?_
  refine lv_iload_n hx hb dX1_oldestGoes_6 rfl (lv_at hl 0 rfl) ?_
  have hPc := hP.sub (ws' := (cx q ca C L f w d st tg hi mi go)) [0, 1, 2, 3, 4, 5, 6, 7, 8, 9, 10, 11] rfl
  have hDc := hD.sub (ws' := (cx q ca C L f w d st tg hi mi go)) [0, 1, 2, 3, 4, 5, 6, 7, 8, 9, 10, 11] (by decide) rfl
  have hKc := hK.sub (tys' := (kx ca)) [0, 1, 2, 3, 4, 5, 6] rfl
  have hFc := va_free (wc := (cx q ca C L f w d st tg hi mi go)) hD hS hA [0, 1, 2, 3, 4, 5, 6, 7, 8, 9, 10, 11] rfl
  refine va_callv (va_runV (As := [.int (-1)]) (rest := []) ⟨hx, hb, hml, hown, hts⟩ (c_X_pageGoes0 l dC dI q ca C L f w d st tg hi mi go H.size hf) (cwV 1 hts gX1_oldestGoes_X1_pageGoes rfl rfl rfl (by decide +kernel) ⟨Nat.le_of_ble_eq_true rfl, Nat.le_of_ble_eq_true rfl⟩) ⟨fun a U g mk q => by obtain ⟨q0, q1, qP, qK, qD⟩ := q; exact ⟨q0, q1, qP, va_K.moved (u := U) (U := U.calling g mk a) (Vm.Alike.refl U.vm) qK, qD⟩, va_recv hKc hPc (ci := 1) (q0 := 0) rfl rfl, fun U hU hW => ⟨rfl, by rw [hU], by rw [hU]; exact hPc, va_K.moved hW.alike hKc, hDc.weaken (fun _ _ _ _ => trivial)⟩⟩ rfl rfl hl.1 rfl (lv_room (Nat.le_of_ble_eq_true rfl)) dX1_oldestGoes_7 ⟨Nat.le_of_ble_eq_true rfl, Nat.le_of_ble_eq_true rfl⟩) hS (fun q _ h => hFc q h) hFc (fun u t H1 locs ht hvm hw hB hz1 hk1 hS => ?_)
  obtain ⟨L1, w1, d1, st1, tg1, hi1, mi1, go1⟩ := u
  obtain ⟨f1, hf1, hP1, hK1, hD1⟩ := hB
  rw [ht] at hP1
  cases hw
  obtain ⟨f_1, ef_1⟩ : ∃ z, z = f1 := ⟨_, rfl⟩
  rw [← ef_1] at hf1 hP1 hD1
  clear ef_1 f1
  have hfx_2 := hf1
  obtain ⟨hP, hD⟩ := va_join (wr := []) (w1 := (cx q ca C L f_1 w d st tg hi mi go)) hP hD [0, 1, 2, 3, 4, 5, 6, 7, 8, 9, 10, 11] [] rfl rfl (by decide) (by decide) hk1 hFc hP1 hD1
  generalize H1 = H at hP hS ⊢
  replace hP : va_P (dC, dI) vwCl (cx q ca C L f_1 w d st tg hi mi go) H := hP
  replace hD : va_D A (cx q ca C L f_1 w d st tg hi mi go) := hD
  refine lv_aload_n hx hb dX1_oldestGoes_10 rfl (lv_at hl 2 rfl) ?_
  refine lv_iload_n hx hb dX1_oldestGoes_11 rfl (lv_at hl 0 rfl) ?_
  have hPc := hP.sub (ws' := (cal (q 1) (q 5) (ca 1) ((L 1).length) (f_1 1))) [1, 2] rfl
  have hDc := hD.sub (ws' := (cal (q 1) (q 5) (ca 1) ((L 1).length) (f_1 1))) [1, 2] (by decide) rfl
  have hKc := hK.sub (tys' := (kal (ca 1))) [0] rfl
  have hFc := va_free (wc := (cal (q 1) (q 5) (ca 1) ((L 1).length) (f_1 1))) hD hS hA [1, 2] rfl
  refine va_callv (va_runV (As := [.int (-1)]) (rest := []) ⟨hx, hb, hml, hown, hts⟩ (c_A_remove l dC dI (q 1) (q 5) (ca 1) (L 1) (f_1 1) (-1) H.size (Nat.le_trans z1 (by decide)) (hfx_2 1 (by decide) (by decide)) (hI.1 1)) (cwV 1 hts gX1_oldestGoes_X0_remove rfl rfl rfl (by decide +kernel) ⟨Nat.le_of_ble_eq_true rfl, Nat.le_of_ble_eq_true rfl⟩) ⟨fun a U g mk q => by obtain ⟨q0, q1, qP, qK, qD⟩ := q; exact ⟨q0, q1, qP, va_K.moved (u := U) (U := U.calling g mk a) (Vm.Alike.refl U.vm) qK, qD⟩, va_recv hKc hPc (ci := 0) (q0 := 0) rfl rfl, fun U hU hW => ⟨rfl, by rw [hU], by rw [hU]; exact hPc, va_K.moved hW.alike hKc, hDc.weaken (fun _ _ _ _ => trivial)⟩⟩ rfl rfl hl.1 rfl (lv_room (Nat.le_of_ble_eq_true rfl)) dX1_oldestGoes_12 ⟨Nat.le_of_ble_eq_true rfl, Nat.le_of_ble_eq_true rfl⟩) hS (fun q _ h => hFc q h) hFc (fun u t H1 locs ht hvm hw hB hz1 hk1 hS => ?_)
  obtain ⟨n1, f1⟩ := u
  obtain ⟨hP1, hK1, hD1⟩ := hB
  rw [ht] at hP1
  try dsimp only at hw hP1 hD1
  rw [ap_rm_nil he] at hw
  obtain ⟨hn9, hf9⟩ := hw
  subst hn9
  obtain ⟨f_3, ef_3⟩ : ∃ z, z = f1 := ⟨_, rfl⟩
  rw [← ef_3] at hf9 hP1 hD1
  clear ef_3 f1
  have hfx_4 := fx_same (k := 1) hfx_2 hf9
  obtain ⟨hP, hD⟩ := va_join (wr := [(q 0, .inr (1, [.int (nI C), .ref (q 1), .ref (q 2), .ref (q 3), .ref (q 4), .ref (q 9), .ref (q 10), .ref (q 11), .int (nI tg), .int hi, .int mi, .int go])), (q 2, .inr (0, [.ref (q 6), .int (nI ((L 2).length))])), (q 6, .inl (ca 2, 64, .inl (f_1 2))), (q 3, .inr (0, [.ref (q 7), .int (nI ((L 3).length))])), (q 7, .inl (ca 3, 64, .inl (f_1 3))), (q 4, .inr (0, [.ref (q 8), .int (nI ((L 4).length))])), (q 8, .inl (ca 4, 64, .inl (f_1 4))), (q 9, .inl (ca 5, 64, .inl w)), (q 10, .inl (ca 6, 64, .inl d)), (q 11, .inl (ca 7, 64, .inl st))]) (w1 := (cal (q 1) (q 5) (ca 1) ((L 1).length) f_3)) hP hD [1, 2] [0, 3, 4, 5, 6, 7, 8, 9, 10, 11] rfl rfl (by decide) (by decide) hk1 hFc hP1 hD1
  generalize H1 = H at hP hS ⊢
  replace hP := hP.sub (ws' := (cx q ca C L (va_up f_1 1 f_3) w d st tg hi mi go)) [0, 10, 11, 1, 2, 3, 4, 5, 6, 7, 8, 9] rfl
  replace hD := hD.sub (ws' := (cx q ca C L (va_up f_1 1 f_3) w d st tg hi mi go)) [0, 10, 11, 1, 2, 3, 4, 5, 6, 7, 8, 9] (by decide) rfl
  refine lv_aload_n hx hb dX1_oldestGoes_15 rfl (lv_at hl 3 rfl) ?_
  refine lv_iload_n hx hb dX1_oldestGoes_16 rfl (lv_at hl 0 rfl) ?_
  have hPc := hP.sub (ws' := (cal (q 3) (q 7) (ca 3) ((L 3).length) ((va_up f_1 1 f_3) 3))) [5, 6] rfl
  have hDc := hD.sub (ws' := (cal (q 3) (q 7) (ca 3) ((L 3).length) ((va_up f_1 1 f_3) 3))) [5, 6] (by decide) rfl
  have hKc := hK.sub (tys' := (kal (ca 3))) [2] rfl
  have hFc := va_free (wc := (cal (q 3) (q 7) (ca 3) ((L 3).length) ((va_up f_1 1 f_3) 3))) hD hS hA [5, 6] rfl
  refine va_callv (va_runV (As := [.int (-1)]) (rest := []) ⟨hx, hb, hml, hown, hts⟩ (c_A_addNewest l dC dI (q 3) (q 7) (ca 3) (L 3) ((va_up f_1 1 f_3) 3) (-1) H.size (Nat.lt_of_le_of_lt z3 (by decide)) (hfx_4 3 (by decide) (by decide))) (cwV 1 hts gX1_oldestGoes_X0_addNewest rfl rfl rfl (by decide +kernel) ⟨Nat.le_of_ble_eq_true rfl, Nat.le_of_ble_eq_true rfl⟩) ⟨fun a U g mk q => by obtain ⟨q0, q1, qP, qK, qD, qN⟩ := q; exact ⟨q0, q1, qP, va_K.moved (u := U) (U := U.calling g mk a) (Vm.Alike.refl U.vm) qK, qD, va_tabs rfl (rfl : U.vm = (U.calling g mk a).vm) qN⟩, va_recv hKc hPc (ci := 0) (q0 := 0) rfl rfl, fun U hU hW => ⟨rfl, by rw [hU], by rw [hU]; exact hPc, va_K.moved hW.alike hKc, hDc.weaken (fun _ _ _ _ => trivial), va_Nw.warmM hW hN⟩⟩ rfl rfl hl.1 rfl (lv_room (Nat.le_of_ble_eq_true rfl)) dX1_oldestGoes_17 ⟨Nat.le_of_ble_eq_true rfl, Nat.le_of_ble_eq_true rfl⟩) hS (fun q _ h => hFc q h) hFc (fun u t H1 locs ht hvm hw hB hz1 hk1 hS => ?_)
  obtain ⟨n1, f1⟩ := u
  obtain ⟨hP1, hK1, hD1⟩ := hB
  rw [ht] at hP1
  try dsimp only at hw hP1 hD1
  rw [al_add_no] at hw
  obtain ⟨hn9, hf9⟩ := hw
  subst hn9
  obtain ⟨f_5, ef_5⟩ : ∃ z, z = f1 := ⟨_, rfl⟩
  rw [← ef_5] at hf9 hP1 hD1
  clear ef_5 f1
  have hfx_6 := fx_same (k := 3) hfx_4 hf9
  obtain ⟨hP, hD⟩ := va_join (wr := [(q 0, .inr (1, [.int (nI C), .ref (q 1), .ref (q 2), .ref (q 3), .ref (q 4), .ref (q 9), .ref (q 10), .ref (q 11), .int (nI tg), .int hi, .int mi, .int go])), (q 1, .inr (0, [.ref (q 5), .int (nI ((L 1).length))])), (q 5, .inl (ca 1, 64, .inl ((va_up f_1 1 f_3) 1))), (q 2, .inr (0, [.ref (q 6), .int (nI ((L 2).length))])), (q 6, .inl (ca 2, 64, .inl ((va_up f_1 1 f_3) 2))), (q 4, .inr (0, [.ref (q 8), .int (nI ((L 4).length))])), (q 8, .inl (ca 4, 64, .inl ((va_up f_1 1 f_3) 4))), (q 9, .inl (ca 5, 64, .inl w)), (q 10, .inl (ca 6, 64, .inl d)), (q 11, .inl (ca 7, 64, .inl st))]) (w1 := (cal (q 3) (q 7) (ca 3) ((L 3).length) f_5)) hP hD [5, 6] [0, 1, 2, 3, 4, 7, 8, 9, 10, 11] rfl rfl (by decide) (by decide) hk1 hFc hP1 hD1
  generalize H1 = H at hP hS ⊢
  replace hP := hP.sub (ws' := (cx q ca C L (va_up (va_up f_1 1 f_3) 3 f_5) w d st tg hi mi go)) [0, 1, 2, 3, 4, 10, 11, 5, 6, 7, 8, 9] rfl
  replace hD := hD.sub (ws' := (cx q ca C L (va_up (va_up f_1 1 f_3) 3 f_5) w d st tg hi mi go)) [0, 1, 2, 3, 4, 10, 11, 5, 6, 7, 8, 9] (by decide) rfl
  exact W.vret hx hb hr (fun t ht hW => ⟨⟨(L, w, d, st, tg, hi, mi, go), rfl, rfl, va_up (va_up f_1 1 f_3) 3 f_5, hfx_6, by rw [ht]; exact hP, va_K.moved hW.alike hK, hD⟩, hS.F ht⟩) hS.2.2 dX1_oldestGoes_20
set_option maxHeartbeats 4000000 in
set_option maxRecDepth 100000 in
theorem c_X_old2 (l : Launch) (dC : Nat → ClassId) (dI : Nat → Nat → Nat) (q : Nat → Nat) (ca : Nat → ClassId) (C : Nat) (L : Nat → List Int32) (f : Nat → Nat → Int32) (w d st : Nat → Int32) (tg : Nat) (hi mi go : Int32)  (sz : Nat) (hf : fx_ok f L) (hI : ap_inv L) (hz : ap_tot L ≤ 48) (he : L 2 ≠ []) : Met l yX1_oldestGoes wsX1_oldestGoes ({ frames := 2, cells := 0, slots := 0, locals := 82 }) (va_Pc [.ref (q 0), .ref (q 2), .ref (q 4)] (fun U => U.heap.size = sz ∧ va_P (dC, dI) vwCl (cx q ca C L f w d st tg hi mi go) U.heap ∧ va_K (dC, dI) vwCl (kx ca) U ∧ va_D (fun _ => True) (cx q ca C L f w d st tg hi mi go) ∧ va_Nw (.methodLinkNest RX0 23 yX1_isAddress "ArcCache") U)) (va_Qv (fun (u : ap_U) => u = (ap_mv L (ap_old (L 2)) 2 4, w, ap_cd d (ap_old (L 2)), ap_cs w d st (ap_old (L 2)), tg, hi, mi, go + 1)) (at_X dC dI (va_A (cx q ca C L f w d st tg hi mi go) sz) q ca C) (va_A (cx q ca C L f w d st tg hi mi go) sz)) 0 0 (va_A (cx q ca C L f w d st tg hi mi go) sz) := by
  refine Met.ofW (cc := cX1_oldestGoes) (maxL := 4) (ret := none) (by decide) rfl ?_
  intro p e s m args below meth c s₁ B hml hv
  obtain ⟨rfl, hsz, hP, hK, hD0, hN⟩ := hv
  have hx := B.exec
  have hb := B.bytes
  have hr := B.returns
  have hts := atoms_spec (ws := wsX1_oldestGoes) B.pre
  have hown : s.vm.findClass RX1 = some m.cls := findClass_of_methodNamed B.named
  have hlocks := B.notSynchronized
  have hwX1 : ∀ w ∈ u_ws RX1 TX1 12, w ∈ wsX1_oldestGoes := by decide +kernel
  subst hsz
  have hD := hD0.self (sz := s.heap.size)
  generalize hAe : va_A (cx q ca C L f w d st tg hi mi go) s.heap.size = A at hD ⊢
  have hA : ∀ q : Nat, s.heap.size ≤ q → A q := fun q h => by rw [← hAe]; exact Or.inr h
  have hS0 : ∀ H, s.heap = H → va_S A s.heap H [] := fun H h => by subst h; exact va_S.rf
  have hl := lv_entry ([.ref (q 0), .ref (q 2), .ref (q 4)]) (n := 4) (Nat.le_of_ble_eq_true rfl)
  rw [lg_entry_eq]
  generalize (lg_sl ([.ref (q 0), .ref (q 2), .ref (q 4)]) ++ List.replicate (4 - (lg_sl ([.ref (q 0), .ref (q 2), .ref (q 4)])).length) Slot.unset).toArray = ls at hl ⊢
  have hl : lv_has ls 4 [(0, .ref (q 0)), (1, .ref (q 2)), (2, .ref (q 4))] := hl
  generalize hHe : s.heap = H at hP ⊢
  have hS := hS0 H hHe
  have z1 : (L 1).length ≤ 48 := by unfold ap_tot at hz; omega
  have z2 : (L 2).length ≤ 48 := by unfold ap_tot at hz; omega
  have z3 : (L 3).length ≤ 48 := by unfold ap_tot at hz; omega
  have z4 : (L 4).length ≤ 48 := by unfold ap_tot at hz; omega
  have hx64 : vp_in (ap_old (L 2)) 64 := ap_old_in hI he
  refine lv_aload_n hx hb dX1_oldestGoes_0 rfl (lv_at hl 1 rfl) ?_
  have hPc := hP.sub (ws' := (cal (q 2) (q 6) (ca 2) ((L 2).length) (f 2))) [3, 4] rfl
  have hDc := hD.sub (ws' := (cal (q 2) (q 6) (ca 2) ((L 2).length) (f 2))) [3, 4] (by decide) rfl
  have hKc := hK.sub (tys' := (kal (ca 2))) [1] rfl
  have hFc := va_free (wc := (cal (q 2) (q 6) (ca 2) ((L 2).length) (f 2))) hD hS hA [3, 4] rfl
  refine va_calli (va_runV (As := []) (rest := []) ⟨hx, hb, hml, hown, hts⟩ (c_A_oldest l dC dI (q 2) (q 6) (ca 2) (L 2) (f 2) H.size (Nat.le_trans z2 (by decide)) (hf 2 (by decide) (by decide))) (cwV 0 hts gX1_oldestGoes_X0_oldest rfl rfl rfl (by decide +kernel) ⟨Nat.le_of_ble_eq_true rfl, Nat.le_of_ble_eq_true rfl⟩) ⟨fun a U g mk q => by obtain ⟨q0, q1, qP, qK, qD⟩ := q; exact ⟨q0, q1, qP, va_K.moved (u := U) (U := U.calling g mk a) (Vm.Alike.refl U.vm) qK, qD⟩, va_recv hKc hPc (ci := 0) (q0 := 0) rfl rfl, fun U hU hW => ⟨rfl, by rw [hU], by rw [hU]; exact hPc, va_K.moved hW.alike hKc, hDc.weaken (fun _ _ _ _ => trivial)⟩⟩ rfl rfl hl.1 rfl (lv_room (Nat.le_of_ble_eq_true rfl)) dX1_oldestGoes_1 ⟨Nat.le_of_ble_eq_true rfl, Nat.le_of_ble_eq_true rfl⟩) hS (fun q _ h => hFc q h) hFc (fun r u t H1 locs ht hvm hw hB hz1 hk1 hS => ?_)
  obtain ⟨n1, f1⟩ := u
  obtain ⟨hP1, hK1, hD1⟩ := hB
  rw [ht] at hP1
  try dsimp only at hw hP1 hD1
  obtain ⟨hr9, hu⟩ := hw
  cases hu
  obtain ⟨hP, hD⟩ := va_join (wr := [(q 0, .inr (1, [.int (nI C), .ref (q 1), .ref (q 2), .ref (q 3), .ref (q 4), .ref (q 9), .ref (q 10), .ref (q 11), .int (nI tg), .int hi, .int mi, .int go])), (q 1, .inr (0, [.ref (q 5), .int (nI ((L 1).length))])), (q 5, .inl (ca 1, 64, .inl (f 1))), (q 3, .inr (0, [.ref (q 7), .int (nI ((L 3).length))])), (q 7, .inl (ca 3, 64, .inl (f 3))), (q 4, .inr (0, [.ref (q 8), .int (nI ((L 4).length))])), (q 8, .inl (ca 4, 64, .inl (f 4))), (q 9, .inl (ca 5, 64, .inl w)), (q 10, .inl (ca 6, 64, .inl d)), (q 11, .inl (ca 7, 64, .inl st))]) (w1 := (cal (q 2) (q 6) (ca 2) ((L 2).length) (f 2))) hP hD [3, 4] [0, 1, 2, 5, 6, 7, 8, 9, 10, 11] rfl rfl (by decide) (by decide) hk1 hFc hP1 hD1
  generalize H1 = H at hP hS ⊢
  replace hP := hP.sub (ws' := (cx q ca C L f w d st tg hi mi go)) [0, 1, 2, 10, 11, 3, 4, 5, 6, 7, 8, 9] rfl
  replace hD := hD.sub (ws' := (cx q ca C L f w d st tg hi mi go)) [0, 1, 2, 10, 11, 3, 4, 5, 6, 7, 8, 9] (by decide) rfl
  subst hr9
  refine lv_istore_n (lv' := [(3, .int (ap_old (L 2))), (0, .ref (q 0)), (1, .ref (q 2)), (2, .ref (q 4))]) hx hb dX1_oldestGoes_4 rfl hl (by decide) rfl (fun ls hl => ?_)
  refine lv_aload_n hx hb dX1_oldestGoes_5 rfl (lv_at hl 1 rfl) ?_
  refine lv_iload_n hx hb dX1_oldestGoes_6 rfl (lv_at hl 0 rfl) ?_
  have hPc := hP.sub (ws' := (cx q ca C L f w d st tg hi mi go)) [0, 1, 2, 3, 4, 5, 6, 7, 8, 9, 10, 11] rfl
  have hDc := hD.sub (ws' := (cx q ca C L f w d st tg hi mi go)) [0, 1, 2, 3, 4, 5, 6, 7, 8, 9, 10, 11] (by decide) rfl
  have hKc := hK.sub (tys' := (kx ca)) [0, 1, 2, 3, 4, 5, 6] rfl
  have hFc := va_free (wc := (cx q ca C L f w d st tg hi mi go)) hD hS hA [0, 1, 2, 3, 4, 5, 6, 7, 8, 9, 10, 11] rfl
  refine va_callv (va_runV (As := [.int (ap_old (L 2))]) (rest := []) ⟨hx, hb, hml, hown, hts⟩ (c_X_pageGoes l dC dI q ca C L f w d st tg hi mi go (ap_old (L 2)) H.size hf hx64) (cwV 1 hts gX1_oldestGoes_X1_pageGoes rfl rfl rfl (by decide +kernel) ⟨Nat.le_of_ble_eq_true rfl, Nat.le_of_ble_eq_true rfl⟩) ⟨fun a U g mk q => by obtain ⟨q0, q1, qP, qK, qD⟩ := q; exact ⟨q0, q1, qP, va_K.moved (u := U) (U := U.calling g mk a) (Vm.Alike.refl U.vm) qK, qD⟩, va_recv hKc hPc (ci := 1) (q0 := 0) rfl rfl, fun U hU hW => ⟨rfl, by rw [hU], by rw [hU]; exact hPc, va_K.moved hW.alike hKc, hDc.weaken (fun _ _ _ _ => trivial)⟩⟩ rfl rfl hl.1 rfl (lv_room (Nat.le_of_ble_eq_true rfl)) dX1_oldestGoes_7 ⟨Nat.le_of_ble_eq_true rfl, Nat.le_of_ble_eq_true rfl⟩) hS (fun q _ h => hFc q h) hFc (fun u t H1 locs ht hvm hw hB hz1 hk1 hS => ?_)
  obtain ⟨L1, w1, d1, st1, tg1, hi1, mi1, go1⟩ := u
  obtain ⟨f1, hf1, hP1, hK1, hD1⟩ := hB
  rw [ht] at hP1
  cases hw
  obtain ⟨f_1, ef_1⟩ : ∃ z, z = f1 := ⟨_, rfl⟩
  rw [← ef_1] at hf1 hP1 hD1
  clear ef_1 f1
  have hfx_2 := hf1
  obtain ⟨hP, hD⟩ := va_join (wr := []) (w1 := (cx q ca C L f_1 w (ap_cd d (ap_old (L 2))) (ap_cs w d st (ap_old (L 2))) tg hi mi (go + 1))) hP hD [0, 1, 2, 3, 4, 5, 6, 7, 8, 9, 10, 11] [] rfl rfl (by decide) (by decide) hk1 hFc hP1 hD1
  generalize H1 = H at hP hS ⊢
  replace hP : va_P (dC, dI) vwCl (cx q ca C L f_1 w (ap_cd d (ap_old (L 2))) (ap_cs w d st (ap_old (L 2))) tg hi mi (go + 1)) H := hP
  replace hD : va_D A (cx q ca C L f_1 w (ap_cd d (ap_old (L 2))) (ap_cs w d st (ap_old (L 2))) tg hi mi (go + 1)) := hD
  refine lv_aload_n hx hb dX1_oldestGoes_10 rfl (lv_at hl 2 rfl) ?_
  refine lv_iload_n hx hb dX1_oldestGoes_11 rfl (lv_at hl 0 rfl) ?_
  have hPc := hP.sub (ws' := (cal (q 2) (q 6) (ca 2) ((L 2).length) (f_1 2))) [3, 4] rfl
  have hDc := hD.sub (ws' := (cal (q 2) (q 6) (ca 2) ((L 2).length) (f_1 2))) [3, 4] (by decide) rfl
  have hKc := hK.sub (tys' := (kal (ca 2))) [1] rfl
  have hFc := va_free (wc := (cal (q 2) (q 6) (ca 2) ((L 2).length) (f_1 2))) hD hS hA [3, 4] rfl
  refine va_callv (va_runV (As := [.int (ap_old (L 2))]) (rest := []) ⟨hx, hb, hml, hown, hts⟩ (c_A_remove l dC dI (q 2) (q 6) (ca 2) (L 2) (f_1 2) (ap_old (L 2)) H.size (Nat.le_trans z2 (by decide)) (hfx_2 2 (by decide) (by decide)) (hI.1 2)) (cwV 1 hts gX1_oldestGoes_X0_remove rfl rfl rfl (by decide +kernel) ⟨Nat.le_of_ble_eq_true rfl, Nat.le_of_ble_eq_true rfl⟩) ⟨fun a U g mk q => by obtain ⟨q0, q1, qP, qK, qD⟩ := q; exact ⟨q0, q1, qP, va_K.moved (u := U) (U := U.calling g mk a) (Vm.Alike.refl U.vm) qK, qD⟩, va_recv hKc hPc (ci := 0) (q0 := 0) rfl rfl, fun U hU hW => ⟨rfl, by rw [hU], by rw [hU]; exact hPc, va_K.moved hW.alike hKc, hDc.weaken (fun _ _ _ _ => trivial)⟩⟩ rfl rfl hl.1 rfl (lv_room (Nat.le_of_ble_eq_true rfl)) dX1_oldestGoes_12 ⟨Nat.le_of_ble_eq_true rfl, Nat.le_of_ble_eq_true rfl⟩) hS (fun q _ h => hFc q h) hFc (fun u t H1 locs ht hvm hw hB hz1 hk1 hS => ?_)
  obtain ⟨n1, f1⟩ := u
  obtain ⟨hP1, hK1, hD1⟩ := hB
  rw [ht] at hP1
  try dsimp only at hw hP1 hD1
  obtain ⟨hn9, hf9⟩ := hw
  subst hn9
  obtain ⟨f_3, ef_3⟩ : ∃ z, z = f1 := ⟨_, rfl⟩
  rw [← ef_3] at hf9 hP1 hD1
  clear ef_3 f1
  have hfx_4 := fx_up (k := 2) hfx_2 hf9
  obtain ⟨hP, hD⟩ := va_join (wr := [(q 0, .inr (1, [.int (nI C), .ref (q 1), .ref (q 2), .ref (q 3), .ref (q 4), .ref (q 9), .ref (q 10), .ref (q 11), .int (nI tg), .int hi, .int mi, .int (go + 1)])), (q 1, .inr (0, [.ref (q 5), .int (nI ((L 1).length))])), (q 5, .inl (ca 1, 64, .inl (f_1 1))), (q 3, .inr (0, [.ref (q 7), .int (nI ((L 3).length))])), (q 7, .inl (ca 3, 64, .inl (f_1 3))), (q 4, .inr (0, [.ref (q 8), .int (nI ((L 4).length))])), (q 8, .inl (ca 4, 64, .inl (f_1 4))), (q 9, .inl (ca 5, 64, .inl w)), (q 10, .inl (ca 6, 64, .inl (ap_cd d (ap_old (L 2))))), (q 11, .inl (ca 7, 64, .inl (ap_cs w d st (ap_old (L 2)))))]) (w1 := (cal (q 2) (q 6) (ca 2) ((ap_rm (ap_old (L 2)) (L 2)).length) f_3)) hP hD [3, 4] [0, 1, 2, 5, 6, 7, 8, 9, 10, 11] rfl rfl (by decide) (by decide) hk1 hFc hP1 hD1
  generalize H1 = H at hP hS ⊢
  replace hP := hP.sub (ws' := (cx q ca C (va_up L 2 (ap_rm (ap_old (L 2)) (L 2))) (va_up f_1 2 f_3) w (ap_cd d (ap_old (L 2))) (ap_cs w d st (ap_old (L 2))) tg hi mi (go + 1))) [0, 1, 2, 10, 11, 3, 4, 5, 6, 7, 8, 9] rfl
  replace hD := hD.sub (ws' := (cx q ca C (va_up L 2 (ap_rm (ap_old (L 2)) (L 2))) (va_up f_1 2 f_3) w (ap_cd d (ap_old (L 2))) (ap_cs w d st (ap_old (L 2))) tg hi mi (go + 1))) [0, 1, 2, 10, 11, 3, 4, 5, 6, 7, 8, 9] (by decide) rfl
  refine lv_aload_n hx hb dX1_oldestGoes_15 rfl (lv_at hl 3 rfl) ?_
  refine lv_iload_n hx hb dX1_oldestGoes_16 rfl (lv_at hl 0 rfl) ?_
  have hPc := hP.sub (ws' := (cal (q 4) (q 8) (ca 4) (((va_up L 2 (ap_rm (ap_old (L 2)) (L 2))) 4).length) ((va_up f_1 2 f_3) 4))) [7, 8] rfl
  have hDc := hD.sub (ws' := (cal (q 4) (q 8) (ca 4) (((va_up L 2 (ap_rm (ap_old (L 2)) (L 2))) 4).length) ((va_up f_1 2 f_3) 4))) [7, 8] (by decide) rfl
  have hKc := hK.sub (tys' := (kal (ca 4))) [3] rfl
  have hFc := va_free (wc := (cal (q 4) (q 8) (ca 4) (((va_up L 2 (ap_rm (ap_old (L 2)) (L 2))) 4).length) ((va_up f_1 2 f_3) 4))) hD hS hA [7, 8] rfl
  refine va_callv (va_runV (As := [.int (ap_old (L 2))]) (rest := []) ⟨hx, hb, hml, hown, hts⟩ (c_A_addNewest l dC dI (q 4) (q 8) (ca 4) ((va_up L 2 (ap_rm (ap_old (L 2)) (L 2))) 4) ((va_up f_1 2 f_3) 4) (ap_old (L 2)) H.size (Nat.lt_of_le_of_lt z4 (by decide)) (hfx_4 4 (by decide) (by decide))) (cwV 1 hts gX1_oldestGoes_X0_addNewest rfl rfl rfl (by decide +kernel) ⟨Nat.le_of_ble_eq_true rfl, Nat.le_of_ble_eq_true rfl⟩) ⟨fun a U g mk q => by obtain ⟨q0, q1, qP, qK, qD, qN⟩ := q; exact ⟨q0, q1, qP, va_K.moved (u := U) (U := U.calling g mk a) (Vm.Alike.refl U.vm) qK, qD, va_tabs rfl (rfl : U.vm = (U.calling g mk a).vm) qN⟩, va_recv hKc hPc (ci := 0) (q0 := 0) rfl rfl, fun U hU hW => ⟨rfl, by rw [hU], by rw [hU]; exact hPc, va_K.moved hW.alike hKc, hDc.weaken (fun _ _ _ _ => trivial), va_Nw.warmM hW hN⟩⟩ rfl rfl hl.1 rfl (lv_room (Nat.le_of_ble_eq_true rfl)) dX1_oldestGoes_17 ⟨Nat.le_of_ble_eq_true rfl, Nat.le_of_ble_eq_true rfl⟩) hS (fun q _ h => hFc q h) hFc (fun u t H1 locs ht hvm hw hB hz1 hk1 hS => ?_)
  obtain ⟨n1, f1⟩ := u
  obtain ⟨hP1, hK1, hD1⟩ := hB
  rw [ht] at hP1
  try dsimp only at hw hP1 hD1
  rw [al_add_in hx64] at hw
  obtain ⟨hn9, hf9⟩ := hw
  subst hn9
  obtain ⟨f_5, ef_5⟩ : ∃ z, z = f1 := ⟨_, rfl⟩
  rw [← ef_5] at hf9 hP1 hD1
  clear ef_5 f1
  have hfx_6 := fx_up (k := 4) hfx_4 hf9
  obtain ⟨hP, hD⟩ := va_join (wr := [(q 0, .inr (1, [.int (nI C), .ref (q 1), .ref (q 2), .ref (q 3), .ref (q 4), .ref (q 9), .ref (q 10), .ref (q 11), .int (nI tg), .int hi, .int mi, .int (go + 1)])), (q 1, .inr (0, [.ref (q 5), .int (nI (((va_up L 2 (ap_rm (ap_old (L 2)) (L 2))) 1).length))])), (q 5, .inl (ca 1, 64, .inl ((va_up f_1 2 f_3) 1))), (q 2, .inr (0, [.ref (q 6), .int (nI (((va_up L 2 (ap_rm (ap_old (L 2)) (L 2))) 2).length))])), (q 6, .inl (ca 2, 64, .inl ((va_up f_1 2 f_3) 2))), (q 3, .inr (0, [.ref (q 7), .int (nI (((va_up L 2 (ap_rm (ap_old (L 2)) (L 2))) 3).length))])), (q 7, .inl (ca 3, 64, .inl ((va_up f_1 2 f_3) 3))), (q 9, .inl (ca 5, 64, .inl w)), (q 10, .inl (ca 6, 64, .inl (ap_cd d (ap_old (L 2))))), (q 11, .inl (ca 7, 64, .inl (ap_cs w d st (ap_old (L 2)))))]) (w1 := (cal (q 4) (q 8) (ca 4) (((ap_old (L 2)) :: (va_up L 2 (ap_rm (ap_old (L 2)) (L 2))) 4).length) f_5)) hP hD [7, 8] [0, 1, 2, 3, 4, 5, 6, 9, 10, 11] rfl rfl (by decide) (by decide) hk1 hFc hP1 hD1
  generalize H1 = H at hP hS ⊢
  replace hP := hP.sub (ws' := (cx q ca C (va_up (va_up L 2 (ap_rm (ap_old (L 2)) (L 2))) 4 ((ap_old (L 2)) :: (va_up L 2 (ap_rm (ap_old (L 2)) (L 2))) 4)) (va_up (va_up f_1 2 f_3) 4 f_5) w (ap_cd d (ap_old (L 2))) (ap_cs w d st (ap_old (L 2))) tg hi mi (go + 1))) [0, 1, 2, 3, 4, 5, 6, 10, 11, 7, 8, 9] rfl
  replace hD := hD.sub (ws' := (cx q ca C (va_up (va_up L 2 (ap_rm (ap_old (L 2)) (L 2))) 4 ((ap_old (L 2)) :: (va_up L 2 (ap_rm (ap_old (L 2)) (L 2))) 4)) (va_up (va_up f_1 2 f_3) 4 f_5) w (ap_cd d (ap_old (L 2))) (ap_cs w d st (ap_old (L 2))) tg hi mi (go + 1))) [0, 1, 2, 3, 4, 5, 6, 10, 11, 7, 8, 9] (by decide) rfl
  exact W.vret hx hb hr (fun t ht hW => ⟨⟨(ap_mv L (ap_old (L 2)) 2 4, w, ap_cd d (ap_old (L 2)), ap_cs w d st (ap_old (L 2)), tg, hi, mi, go + 1), rfl, rfl, va_up (va_up f_1 2 f_3) 4 f_5, hfx_6, by rw [ht]; exact hP, va_K.moved hW.alike hK, hD⟩, hS.F ht⟩) hS.2.2 dX1_oldestGoes_20
set_option maxHeartbeats 4000000 in
set_option maxRecDepth 100000 in
theorem c_X_old2e (l : Launch) (dC : Nat → ClassId) (dI : Nat → Nat → Nat) (q : Nat → Nat) (ca : Nat → ClassId) (C : Nat) (L : Nat → List Int32) (f : Nat → Nat → Int32) (w d st : Nat → Int32) (tg : Nat) (hi mi go : Int32)  (sz : Nat) (hf : fx_ok f L) (hI : ap_inv L) (hz : ap_tot L ≤ 48) (he : L 2 = []) : Met l yX1_oldestGoes wsX1_oldestGoes ({ frames := 2, cells := 0, slots := 0, locals := 82 }) (va_Pc [.ref (q 0), .ref (q 2), .ref (q 4)] (fun U => U.heap.size = sz ∧ va_P (dC, dI) vwCl (cx q ca C L f w d st tg hi mi go) U.heap ∧ va_K (dC, dI) vwCl (kx ca) U ∧ va_D (fun _ => True) (cx q ca C L f w d st tg hi mi go) ∧ va_Nw (.methodLinkNest RX0 23 yX1_isAddress "ArcCache") U)) (va_Qv (fun (u : ap_U) => u = (L, w, d, st, tg, hi, mi, go)) (at_X dC dI (va_A (cx q ca C L f w d st tg hi mi go) sz) q ca C) (va_A (cx q ca C L f w d st tg hi mi go) sz)) 0 0 (va_A (cx q ca C L f w d st tg hi mi go) sz) := by
  refine Met.ofW (cc := cX1_oldestGoes) (maxL := 4) (ret := none) (by decide) rfl ?_
  intro p e s m args below meth c s₁ B hml hv
  obtain ⟨rfl, hsz, hP, hK, hD0, hN⟩ := hv
  have hx := B.exec
  have hb := B.bytes
  have hr := B.returns
  have hts := atoms_spec (ws := wsX1_oldestGoes) B.pre
  have hown : s.vm.findClass RX1 = some m.cls := findClass_of_methodNamed B.named
  have hlocks := B.notSynchronized
  have hwX1 : ∀ w ∈ u_ws RX1 TX1 12, w ∈ wsX1_oldestGoes := by decide +kernel
  subst hsz
  have hD := hD0.self (sz := s.heap.size)
  generalize hAe : va_A (cx q ca C L f w d st tg hi mi go) s.heap.size = A at hD ⊢
  have hA : ∀ q : Nat, s.heap.size ≤ q → A q := fun q h => by rw [← hAe]; exact Or.inr h
  have hS0 : ∀ H, s.heap = H → va_S A s.heap H [] := fun H h => by subst h; exact va_S.rf
  have hl := lv_entry ([.ref (q 0), .ref (q 2), .ref (q 4)]) (n := 4) (Nat.le_of_ble_eq_true rfl)
  rw [lg_entry_eq]
  generalize (lg_sl ([.ref (q 0), .ref (q 2), .ref (q 4)]) ++ List.replicate (4 - (lg_sl ([.ref (q 0), .ref (q 2), .ref (q 4)])).length) Slot.unset).toArray = ls at hl ⊢
  have hl : lv_has ls 4 [(0, .ref (q 0)), (1, .ref (q 2)), (2, .ref (q 4))] := hl
  generalize hHe : s.heap = H at hP ⊢
  have hS := hS0 H hHe
  have z1 : (L 1).length ≤ 48 := by unfold ap_tot at hz; omega
  have z2 : (L 2).length ≤ 48 := by unfold ap_tot at hz; omega
  have z3 : (L 3).length ≤ 48 := by unfold ap_tot at hz; omega
  have z4 : (L 4).length ≤ 48 := by unfold ap_tot at hz; omega
  have hold9 : ap_old (L 2) = -1 := by rw [he]; rfl
  refine lv_aload_n hx hb dX1_oldestGoes_0 rfl (lv_at hl 1 rfl) ?_
  have hPc := hP.sub (ws' := (cal (q 2) (q 6) (ca 2) ((L 2).length) (f 2))) [3, 4] rfl
  have hDc := hD.sub (ws' := (cal (q 2) (q 6) (ca 2) ((L 2).length) (f 2))) [3, 4] (by decide) rfl
  have hKc := hK.sub (tys' := (kal (ca 2))) [1] rfl
  have hFc := va_free (wc := (cal (q 2) (q 6) (ca 2) ((L 2).length) (f 2))) hD hS hA [3, 4] rfl
  refine va_calli (va_runV (As := []) (rest := []) ⟨hx, hb, hml, hown, hts⟩ (c_A_oldest l dC dI (q 2) (q 6) (ca 2) (L 2) (f 2) H.size (Nat.le_trans z2 (by decide)) (hf 2 (by decide) (by decide))) (cwV 0 hts gX1_oldestGoes_X0_oldest rfl rfl rfl (by decide +kernel) ⟨Nat.le_of_ble_eq_true rfl, Nat.le_of_ble_eq_true rfl⟩) ⟨fun a U g mk q => by obtain ⟨q0, q1, qP, qK, qD⟩ := q; exact ⟨q0, q1, qP, va_K.moved (u := U) (U := U.calling g mk a) (Vm.Alike.refl U.vm) qK, qD⟩, va_recv hKc hPc (ci := 0) (q0 := 0) rfl rfl, fun U hU hW => ⟨rfl, by rw [hU], by rw [hU]; exact hPc, va_K.moved hW.alike hKc, hDc.weaken (fun _ _ _ _ => trivial)⟩⟩ rfl rfl hl.1 rfl (lv_room (Nat.le_of_ble_eq_true rfl)) dX1_oldestGoes_1 ⟨Nat.le_of_ble_eq_true rfl, Nat.le_of_ble_eq_true rfl⟩) hS (fun q _ h => hFc q h) hFc (fun r u t H1 locs ht hvm hw hB hz1 hk1 hS => ?_)
  obtain ⟨n1, f1⟩ := u
  obtain ⟨hP1, hK1, hD1⟩ := hB
  rw [ht] at hP1
  try dsimp only at hw hP1 hD1
  obtain ⟨hr9, hu⟩ := hw
  cases hu
  obtain ⟨hP, hD⟩ := va_join (wr := [(q 0, .inr (1, [.int (nI C), .ref (q 1), .ref (q 2), .ref (q 3), .ref (q 4), .ref (q 9), .ref (q 10), .ref (q 11), .int (nI tg), .int hi, .int mi, .int go])), (q 1, .inr (0, [.ref (q 5), .int (nI ((L 1).length))])), (q 5, .inl (ca 1, 64, .inl (f 1))), (q 3, .inr (0, [.ref (q 7), .int (nI ((L 3).length))])), (q 7, .inl (ca 3, 64, .inl (f 3))), (q 4, .inr (0, [.ref (q 8), .int (nI ((L 4).length))])), (q 8, .inl (ca 4, 64, .inl (f 4))), (q 9, .inl (ca 5, 64, .inl w)), (q 10, .inl (ca 6, 64, .inl d)), (q 11, .inl (ca 7, 64, .inl st))]) (w1 := (cal (q 2) (q 6) (ca 2) ((L 2).length) (f 2))) hP hD [3, 4] [0, 1, 2, 5, 6, 7, 8, 9, 10, 11] rfl rfl (by decide) (by decide) hk1 hFc hP1 hD1
  generalize H1 = H at hP hS ⊢
  replace hP := hP.sub (ws' := (cx q ca C L f w d st tg hi mi go)) [0, 1, 2, 10, 11, 3, 4, 5, 6, 7, 8, 9] rfl
  replace hD := hD.sub (ws' := (cx q ca C L f w d st tg hi mi go)) [0, 1, 2, 10, 11, 3, 4, 5, 6, 7, 8, 9] (by decide) rfl
  rw [hold9] at hr9
  subst hr9
  refine lv_istore_n (lv' := [(3, .int (-1)), (0, .ref (q 0)), (1, .ref (q 2)), (2, .ref (q 4))]) hx hb dX1_oldestGoes_4 rfl hl (by decide) rfl (fun ls hl => ?_)
  refine lv_aload_n hx hb dX1_oldestGoes_5 rfl (lv_at hl 1 rfl) ?_
  refine lv_iload_n hx hb dX1_oldestGoes_6 rfl (lv_at hl 0 rfl) ?_
  have hPc := hP.sub (ws' := (cx q ca C L f w d st tg hi mi go)) [0, 1, 2, 3, 4, 5, 6, 7, 8, 9, 10, 11] rfl
  have hDc := hD.sub (ws' := (cx q ca C L f w d st tg hi mi go)) [0, 1, 2, 3, 4, 5, 6, 7, 8, 9, 10, 11] (by decide) rfl
  have hKc := hK.sub (tys' := (kx ca)) [0, 1, 2, 3, 4, 5, 6] rfl
  have hFc := va_free (wc := (cx q ca C L f w d st tg hi mi go)) hD hS hA [0, 1, 2, 3, 4, 5, 6, 7, 8, 9, 10, 11] rfl
  refine va_callv (va_runV (As := [.int (-1)]) (rest := []) ⟨hx, hb, hml, hown, hts⟩ (c_X_pageGoes0 l dC dI q ca C L f w d st tg hi mi go H.size hf) (cwV 1 hts gX1_oldestGoes_X1_pageGoes rfl rfl rfl (by decide +kernel) ⟨Nat.le_of_ble_eq_true rfl, Nat.le_of_ble_eq_true rfl⟩) ⟨fun a U g mk q => by obtain ⟨q0, q1, qP, qK, qD⟩ := q; exact ⟨q0, q1, qP, va_K.moved (u := U) (U := U.calling g mk a) (Vm.Alike.refl U.vm) qK, qD⟩, va_recv hKc hPc (ci := 1) (q0 := 0) rfl rfl, fun U hU hW => ⟨rfl, by rw [hU], by rw [hU]; exact hPc, va_K.moved hW.alike hKc, hDc.weaken (fun _ _ _ _ => trivial)⟩⟩ rfl rfl hl.1 rfl (lv_room (Nat.le_of_ble_eq_true rfl)) dX1_oldestGoes_7 ⟨Nat.le_of_ble_eq_true rfl, Nat.le_of_ble_eq_true rfl⟩) hS (fun q _ h => hFc q h) hFc (fun u t H1 locs ht hvm hw hB hz1 hk1 hS => ?_)
  obtain ⟨L1, w1, d1, st1, tg1, hi1, mi1, go1⟩ := u
  obtain ⟨f1, hf1, hP1, hK1, hD1⟩ := hB
  rw [ht] at hP1
  cases hw
  obtain ⟨f_1, ef_1⟩ : ∃ z, z = f1 := ⟨_, rfl⟩
  rw [← ef_1] at hf1 hP1 hD1
  clear ef_1 f1
  have hfx_2 := hf1
  obtain ⟨hP, hD⟩ := va_join (wr := []) (w1 := (cx q ca C L f_1 w d st tg hi mi go)) hP hD [0, 1, 2, 3, 4, 5, 6, 7, 8, 9, 10, 11] [] rfl rfl (by decide) (by decide) hk1 hFc hP1 hD1
  generalize H1 = H at hP hS ⊢
  replace hP : va_P (dC, dI) vwCl (cx q ca C L f_1 w d st tg hi mi go) H := hP
  replace hD : va_D A (cx q ca C L f_1 w d st tg hi mi go) := hD
  refine lv_aload_n hx hb dX1_oldestGoes_10 rfl (lv_at hl 2 rfl) ?_
  refine lv_iload_n hx hb dX1_oldestGoes_11 rfl (lv_at hl 0 rfl) ?_
  have hPc := hP.sub (ws' := (cal (q 2) (q 6) (ca 2) ((L 2).length) (f_1 2))) [3, 4] rfl
  have hDc := hD.sub (ws' := (cal (q 2) (q 6) (ca 2) ((L 2).length) (f_1 2))) [3, 4] (by decide) rfl
  have hKc := hK.sub (tys' := (kal (ca 2))) [1] rfl
  have hFc := va_free (wc := (cal (q 2) (q 6) (ca 2) ((L 2).length) (f_1 2))) hD hS hA [3, 4] rfl
  refine va_callv (va_runV (As := [.int (-1)]) (rest := []) ⟨hx, hb, hml, hown, hts⟩ (c_A_remove l dC dI (q 2) (q 6) (ca 2) (L 2) (f_1 2) (-1) H.size (Nat.le_trans z2 (by decide)) (hfx_2 2 (by decide) (by decide)) (hI.1 2)) (cwV 1 hts gX1_oldestGoes_X0_remove rfl rfl rfl (by decide +kernel) ⟨Nat.le_of_ble_eq_true rfl, Nat.le_of_ble_eq_true rfl⟩) ⟨fun a U g mk q => by obtain ⟨q0, q1, qP, qK, qD⟩ := q; exact ⟨q0, q1, qP, va_K.moved (u := U) (U := U.calling g mk a) (Vm.Alike.refl U.vm) qK, qD⟩, va_recv hKc hPc (ci := 0) (q0 := 0) rfl rfl, fun U hU hW => ⟨rfl, by rw [hU], by rw [hU]; exact hPc, va_K.moved hW.alike hKc, hDc.weaken (fun _ _ _ _ => trivial)⟩⟩ rfl rfl hl.1 rfl (lv_room (Nat.le_of_ble_eq_true rfl)) dX1_oldestGoes_12 ⟨Nat.le_of_ble_eq_true rfl, Nat.le_of_ble_eq_true rfl⟩) hS (fun q _ h => hFc q h) hFc (fun u t H1 locs ht hvm hw hB hz1 hk1 hS => ?_)
  obtain ⟨n1, f1⟩ := u
  obtain ⟨hP1, hK1, hD1⟩ := hB
  rw [ht] at hP1
  try dsimp only at hw hP1 hD1
  rw [ap_rm_nil he] at hw
  obtain ⟨hn9, hf9⟩ := hw
  subst hn9
  obtain ⟨f_3, ef_3⟩ : ∃ z, z = f1 := ⟨_, rfl⟩
  rw [← ef_3] at hf9 hP1 hD1
  clear ef_3 f1
  have hfx_4 := fx_same (k := 2) hfx_2 hf9
  obtain ⟨hP, hD⟩ := va_join (wr := [(q 0, .inr (1, [.int (nI C), .ref (q 1), .ref (q 2), .ref (q 3), .ref (q 4), .ref (q 9), .ref (q 10), .ref (q 11), .int (nI tg), .int hi, .int mi, .int go])), (q 1, .inr (0, [.ref (q 5), .int (nI ((L 1).length))])), (q 5, .inl (ca 1, 64, .inl (f_1 1))), (q 3, .inr (0, [.ref (q 7), .int (nI ((L 3).length))])), (q 7, .inl (ca 3, 64, .inl (f_1 3))), (q 4, .inr (0, [.ref (q 8), .int (nI ((L 4).length))])), (q 8, .inl (ca 4, 64, .inl (f_1 4))), (q 9, .inl (ca 5, 64, .inl w)), (q 10, .inl (ca 6, 64, .inl d)), (q 11, .inl (ca 7, 64, .inl st))]) (w1 := (cal (q 2) (q 6) (ca 2) ((L 2).length) f_3)) hP hD [3, 4] [0, 1, 2, 5, 6, 7, 8, 9, 10, 11] rfl rfl (by decide) (by decide) hk1 hFc hP1 hD1
  generalize H1 = H at hP hS ⊢
  replace hP := hP.sub (ws' := (cx q ca C L (va_up f_1 2 f_3) w d st tg hi mi go)) [0, 1, 2, 10, 11, 3, 4, 5, 6, 7, 8, 9] rfl
  replace hD := hD.sub (ws' := (cx q ca C L (va_up f_1 2 f_3) w d st tg hi mi go)) [0, 1, 2, 10, 11, 3, 4, 5, 6, 7, 8, 9] (by decide) rfl
  refine lv_aload_n hx hb dX1_oldestGoes_15 rfl (lv_at hl 3 rfl) ?_
  refine lv_iload_n hx hb dX1_oldestGoes_16 rfl (lv_at hl 0 rfl) ?_
  have hPc := hP.sub (ws' := (cal (q 4) (q 8) (ca 4) ((L 4).length) ((va_up f_1 2 f_3) 4))) [7, 8] rfl
  have hDc := hD.sub (ws' := (cal (q 4) (q 8) (ca 4) ((L 4).length) ((va_up f_1 2 f_3) 4))) [7, 8] (by decide) rfl
  have hKc := hK.sub (tys' := (kal (ca 4))) [3] rfl
  have hFc := va_free (wc := (cal (q 4) (q 8) (ca 4) ((L 4).length) ((va_up f_1 2 f_3) 4))) hD hS hA [7, 8] rfl
  refine va_callv (va_runV (As := [.int (-1)]) (rest := []) ⟨hx, hb, hml, hown, hts⟩ (c_A_addNewest l dC dI (q 4) (q 8) (ca 4) (L 4) ((va_up f_1 2 f_3) 4) (-1) H.size (Nat.lt_of_le_of_lt z4 (by decide)) (hfx_4 4 (by decide) (by decide))) (cwV 1 hts gX1_oldestGoes_X0_addNewest rfl rfl rfl (by decide +kernel) ⟨Nat.le_of_ble_eq_true rfl, Nat.le_of_ble_eq_true rfl⟩) ⟨fun a U g mk q => by obtain ⟨q0, q1, qP, qK, qD, qN⟩ := q; exact ⟨q0, q1, qP, va_K.moved (u := U) (U := U.calling g mk a) (Vm.Alike.refl U.vm) qK, qD, va_tabs rfl (rfl : U.vm = (U.calling g mk a).vm) qN⟩, va_recv hKc hPc (ci := 0) (q0 := 0) rfl rfl, fun U hU hW => ⟨rfl, by rw [hU], by rw [hU]; exact hPc, va_K.moved hW.alike hKc, hDc.weaken (fun _ _ _ _ => trivial), va_Nw.warmM hW hN⟩⟩ rfl rfl hl.1 rfl (lv_room (Nat.le_of_ble_eq_true rfl)) dX1_oldestGoes_17 ⟨Nat.le_of_ble_eq_true rfl, Nat.le_of_ble_eq_true rfl⟩) hS (fun q _ h => hFc q h) hFc (fun u t H1 locs ht hvm hw hB hz1 hk1 hS => ?_)
  obtain ⟨n1, f1⟩ := u
  obtain ⟨hP1, hK1, hD1⟩ := hB
  rw [ht] at hP1
  try dsimp only at hw hP1 hD1
  rw [al_add_no] at hw
  obtain ⟨hn9, hf9⟩ := hw
  subst hn9
  obtain ⟨f_5, ef_5⟩ : ∃ z, z = f1 := ⟨_, rfl⟩
  rw [← ef_5] at hf9 hP1 hD1
  clear ef_5 f1
  have hfx_6 := fx_same (k := 4) hfx_4 hf9
  obtain ⟨hP, hD⟩ := va_join (wr := [(q 0, .inr (1, [.int (nI C), .ref (q 1), .ref (q 2), .ref (q 3), .ref (q 4), .ref (q 9), .ref (q 10), .ref (q 11), .int (nI tg), .int hi, .int mi, .int go])), (q 1, .inr (0, [.ref (q 5), .int (nI ((L 1).length))])), (q 5, .inl (ca 1, 64, .inl ((va_up f_1 2 f_3) 1))), (q 2, .inr (0, [.ref (q 6), .int (nI ((L 2).length))])), (q 6, .inl (ca 2, 64, .inl ((va_up f_1 2 f_3) 2))), (q 3, .inr (0, [.ref (q 7), .int (nI ((L 3).length))])), (q 7, .inl (ca 3, 64, .inl ((va_up f_1 2 f_3) 3))), (q 9, .inl (ca 5, 64, .inl w)), (q 10, .inl (ca 6, 64, .inl d)), (q 11, .inl (ca 7, 64, .inl st))]) (w1 := (cal (q 4) (q 8) (ca 4) ((L 4).length) f_5)) hP hD [7, 8] [0, 1, 2, 3, 4, 5, 6, 9, 10, 11] rfl rfl (by decide) (by decide) hk1 hFc hP1 hD1
  generalize H1 = H at hP hS ⊢
  replace hP := hP.sub (ws' := (cx q ca C L (va_up (va_up f_1 2 f_3) 4 f_5) w d st tg hi mi go)) [0, 1, 2, 3, 4, 5, 6, 10, 11, 7, 8, 9] rfl
  replace hD := hD.sub (ws' := (cx q ca C L (va_up (va_up f_1 2 f_3) 4 f_5) w d st tg hi mi go)) [0, 1, 2, 3, 4, 5, 6, 10, 11, 7, 8, 9] (by decide) rfl
  exact W.vret hx hb hr (fun t ht hW => ⟨⟨(L, w, d, st, tg, hi, mi, go), rfl, rfl, va_up (va_up f_1 2 f_3) 4 f_5, hfx_6, by rw [ht]; exact hP, va_K.moved hW.alike hK, hD⟩, hS.F ht⟩) hS.2.2 dX1_oldestGoes_20
set_option maxHeartbeats 4000000 in
set_option maxRecDepth 100000 in
theorem c_X_makeRoom (l : Launch) (dC : Nat → ClassId) (dI : Nat → Nat → Nat) (q : Nat → Nat) (ca : Nat → ClassId) (C : Nat) (L : Nat → List Int32) (f : Nat → Nat → Int32) (w d st : Nat → Int32) (tg : Nat) (hi mi go : Int32) (x : Int32) (sz : Nat) (hf : fx_ok f L) (hI : ap_inv L) (hz : ap_tot L ≤ 48) (htg : tg ≤ 48) : Met l yX1_makeRoom wsX1_makeRoom ({ frames := 3, cells := 0, slots := 0, locals := 105 }) (va_Pc [.ref (q 0), .int x] (fun U => U.heap.size = sz ∧ va_P (dC, dI) vwCl (cx q ca C L f w d st tg hi mi go) U.heap ∧ va_K (dC, dI) vwCl (kx ca) U ∧ va_D (fun _ => True) (cx q ca C L f w d st tg hi mi go) ∧ va_Nw (.methodLinkNest RX0 23 yX1_isAddress "ArcCache") U)) (va_Qv (fun (u : ap_U) => u = ap_tu w tg hi mi (ap_mk w tg x (L, d, st, go))) (at_X dC dI (va_A (cx q ca C L f w d st tg hi mi go) sz) q ca C) (va_A (cx q ca C L f w d st tg hi mi go) sz)) 0 0 (va_A (cx q ca C L f w d st tg hi mi go) sz) := by
  refine Met.ofW (cc := cX1_makeRoom) (maxL := 4) (ret := none) (by decide) rfl ?_
  intro p e s m args below meth c s₁ B hml hv
  obtain ⟨rfl, hsz, hP, hK, hD0, hN⟩ := hv
  have hx := B.exec
  have hb := B.bytes
  have hr := B.returns
  have hts := atoms_spec (ws := wsX1_makeRoom) B.pre
  have hown : s.vm.findClass RX1 = some m.cls := findClass_of_methodNamed B.named
  have hlocks := B.notSynchronized
  have hwX1 : ∀ w ∈ u_ws RX1 TX1 12, w ∈ wsX1_makeRoom := by decide +kernel
  subst hsz
  have hD := hD0.self (sz := s.heap.size)
  generalize hAe : va_A (cx q ca C L f w d st tg hi mi go) s.heap.size = A at hD ⊢
  have hA : ∀ q : Nat, s.heap.size ≤ q → A q := fun q h => by rw [← hAe]; exact Or.inr h
  have hS0 : ∀ H, s.heap = H → va_S A s.heap H [] := fun H h => by subst h; exact va_S.rf
  have hl := lv_entry ([.ref (q 0), .int x]) (n := 4) (Nat.le_of_ble_eq_true rfl)
  rw [lg_entry_eq]
  generalize (lg_sl ([.ref (q 0), .int x]) ++ List.replicate (4 - (lg_sl ([.ref (q 0), .int x])).length) Slot.unset).toArray = ls at hl ⊢
  have hl : lv_has ls 4 [(0, .ref (q 0)), (1, .int x)] := hl
  generalize hHe : s.heap = H at hP ⊢
  have hS := hS0 H hHe
  have z1 : (L 1).length ≤ 48 := by unfold ap_tot at hz; omega
  have z2 : (L 2).length ≤ 48 := by unfold ap_tot at hz; omega
  have z3 : (L 3).length ≤ 48 := by unfold ap_tot at hz; omega
  have z4 : (L 4).length ≤ 48 := by unfold ap_tot at hz; omega
  refine lv_aload_n hx hb dX1_makeRoom_0 rfl (lv_at hl 0 rfl) ?_
  refine va_get (D := (dC, dI)) (ci := 1) (v := .ref (q 1)) (C := RX1) (T := TX1) (N := 12) hx hb hts hwX1 hown hK hP 0 rfl rfl 1 (by decide) (hts (.fieldLink RX1 10 "ArcCache" "cameOnce" "LArcCache$AddressList;") (by decide +kernel)) (fun _ h9 => h9) rfl dX1_makeRoom_1 ?_
  have hPc := hP.sub (ws' := (cal (q 1) (q 5) (ca 1) ((L 1).length) (f 1))) [1, 2] rfl
  have hDc := hD.sub (ws' := (cal (q 1) (q 5) (ca 1) ((L 1).length) (f 1))) [1, 2] (by decide) rfl
  have hKc := hK.sub (tys' := (kal (ca 1))) [0] rfl
  have hFc := va_free (wc := (cal (q 1) (q 5) (ca 1) ((L 1).length) (f 1))) hD hS hA [1, 2] rfl
  refine va_calli (va_runV (As := []) (rest := []) ⟨hx, hb, hml, hown, hts⟩ (c_A_size l dC dI (q 1) (q 5) (ca 1) (L 1).length (f 1) H.size) (cwV 0 hts gX1_makeRoom_X0_size rfl rfl rfl (by decide +kernel) ⟨Nat.le_of_ble_eq_true rfl, Nat.le_of_ble_eq_true rfl⟩) ⟨fun a U g mk q => by obtain ⟨q0, q1, qP, qK, qD⟩ := q; exact ⟨q0, q1, qP, va_K.moved (u := U) (U := U.calling g mk a) (Vm.Alike.refl U.vm) qK, qD⟩, va_recv hKc hPc (ci := 0) (q0 := 0) rfl rfl, fun U hU hW => ⟨rfl, by rw [hU], by rw [hU]; exact hPc, va_K.moved hW.alike hKc, hDc.weaken (fun _ _ _ _ => trivial)⟩⟩ rfl rfl hl.1 rfl (lv_room (Nat.le_of_ble_eq_true rfl)) dX1_makeRoom_4 ⟨Nat.le_of_ble_eq_true rfl, Nat.le_of_ble_eq_true rfl⟩) hS (fun q _ h => hFc q h) hFc (fun r u t H1 locs ht hvm hw hB hz1 hk1 hS => ?_)
  obtain ⟨n1, f1⟩ := u
  obtain ⟨hP1, hK1, hD1⟩ := hB
  rw [ht] at hP1
  try dsimp only at hw hP1 hD1
  obtain ⟨hr9, hu⟩ := hw
  cases hu
  obtain ⟨hP, hD⟩ := va_join (wr := [(q 0, .inr (1, [.int (nI C), .ref (q 1), .ref (q 2), .ref (q 3), .ref (q 4), .ref (q 9), .ref (q 10), .ref (q 11), .int (nI tg), .int hi, .int mi, .int go])), (q 2, .inr (0, [.ref (q 6), .int (nI ((L 2).length))])), (q 6, .inl (ca 2, 64, .inl (f 2))), (q 3, .inr (0, [.ref (q 7), .int (nI ((L 3).length))])), (q 7, .inl (ca 3, 64, .inl (f 3))), (q 4, .inr (0, [.ref (q 8), .int (nI ((L 4).length))])), (q 8, .inl (ca 4, 64, .inl (f 4))), (q 9, .inl (ca 5, 64, .inl w)), (q 10, .inl (ca 6, 64, .inl d)), (q 11, .inl (ca 7, 64, .inl st))]) (w1 := (cal (q 1) (q 5) (ca 1) ((L 1).length) (f 1))) hP hD [1, 2] [0, 3, 4, 5, 6, 7, 8, 9, 10, 11] rfl rfl (by decide) (by decide) hk1 hFc hP1 hD1
  generalize H1 = H at hP hS ⊢
  replace hP := hP.sub (ws' := (cx q ca C L f w d st tg hi mi go)) [0, 10, 11, 1, 2, 3, 4, 5, 6, 7, 8, 9] rfl
  replace hD := hD.sub (ws' := (cx q ca C L f w d st tg hi mi go)) [0, 10, 11, 1, 2, 3, 4, 5, 6, 7, 8, 9] (by decide) rfl
  subst hr9
  refine lv_istore_n (lv' := [(2, .int (nI ((L 1).length))), (0, .ref (q 0)), (1, .int x)]) hx hb dX1_makeRoom_7 rfl hl (by decide) rfl (fun ls hl => ?_)
  refine lv_iload_n hx hb dX1_makeRoom_8 rfl (lv_at hl 0 rfl) ?_
  refine lv_aload_n hx hb dX1_makeRoom_9 rfl (lv_at hl 1 rfl) ?_
  refine va_get (D := (dC, dI)) (ci := 1) (v := .int (nI tg)) (C := RX1) (T := TX1) (N := 12) hx hb hts hwX1 hown hK hP 0 rfl rfl 8 (by decide) (hts (.fieldLink RX1 55 "ArcCache" "targetCount" "I") (by decide +kernel)) (fun _ h9 => h9) rfl dX1_makeRoom_10 ?_
  refine lv_icmp_ne (tgt := 35) hx hb dX1_makeRoom_13 (by decide) (fun c_13 => ?_) (fun c_13 => ?_)
  · skip
    replace c_13 : ¬ (((L 1).length) = tg) := fun h9 => c_13 ((nI_eq (a := (L 1).length) (b := tg) (by omega) (by omega)).mpr h9)
    refine lv_iconst (v := nI 0) hx hb dX1_makeRoom_35 (by decide) ?_
    refine lv_istore_n (lv' := [(3, .int (nI 0)), (2, .int (nI ((L 1).length))), (0, .ref (q 0)), (1, .int x)]) hx hb dX1_makeRoom_36 rfl hl (by decide) rfl (fun ls hl => ?_)
    refine lv_iload_n hx hb dX1_makeRoom_37 rfl (lv_at hl 1 rfl) ?_
    refine lv_aload_n hx hb dX1_makeRoom_38 rfl (lv_at hl 2 rfl) ?_
    refine va_get (D := (dC, dI)) (ci := 1) (v := .int (nI tg)) (C := RX1) (T := TX1) (N := 12) hx hb hts hwX1 hown hK hP 0 rfl rfl 8 (by decide) (hts (.fieldLink RX1 55 "ArcCache" "targetCount" "I") (by decide +kernel)) (fun _ h9 => h9) rfl dX1_makeRoom_39 ?_
    refine lv_icmp_gt (tgt := 49) hx hb dX1_makeRoom_42 (by decide) (fun c_42 => ?_) (fun c_42 => ?_)
    · skip
      replace c_42 : tg < ((L 1).length) := (nI_ltI (a := tg) (b := (L 1).length) (by omega) (by omega)).mp c_42
      refine lv_aload_n hx hb dX1_makeRoom_49 rfl (lv_at hl 2 rfl) ?_
      refine lv_aload_n hx hb dX1_makeRoom_50 rfl (lv_at hl 2 rfl) ?_
      refine va_get (D := (dC, dI)) (ci := 1) (v := .ref (q 1)) (C := RX1) (T := TX1) (N := 12) hx hb hts hwX1 hown hK hP 0 rfl rfl 1 (by decide) (hts (.fieldLink RX1 10 "ArcCache" "cameOnce" "LArcCache$AddressList;") (by decide +kernel)) (fun _ h9 => h9) rfl dX1_makeRoom_51 ?_
      refine lv_aload_n hx hb dX1_makeRoom_54 rfl (lv_at hl 2 rfl) ?_
      refine va_get (D := (dC, dI)) (ci := 1) (v := .ref (q 3)) (C := RX1) (T := TX1) (N := 12) hx hb hts hwX1 hown hK hP 0 rfl rfl 3 (by decide) (hts (.fieldLink RX1 19 "ArcCache" "wentOnce" "LArcCache$AddressList;") (by decide +kernel)) (fun _ h9 => h9) rfl dX1_makeRoom_55 ?_
      have hcd9 : tg < (L 1).length ∨ ((L 1).length = tg ∧ 0 < tg ∧ ap_wl L x = 4) := by first | exact Or.inl c_42 | exact Or.inr ⟨c_13, by omega, ap_wl_of hI hm_4⟩
      have emk9 : ap_mk w tg x (L, d, st, go) = ap_og w 1 (L, d, st, go) := ap_mk_1 hcd9
      have hne9 : L 1 ≠ [] := ap_ne (by omega)
      have hfin9 : (ap_mv L (ap_old (L 1)) 1 3, w, ap_cd d (ap_old (L 1)), ap_cs w d st (ap_old (L 1)), tg, hi, mi, go + 1) = ap_tu w tg hi mi (ap_mk w tg x (L, d, st, go)) := by rw [emk9]; unfold ap_og; rw [if_neg hne9]; rfl
      have hPc := hP.sub (ws' := (cx q ca C L f w d st tg hi mi go)) [0, 1, 2, 3, 4, 5, 6, 7, 8, 9, 10, 11] rfl
      have hDc := hD.sub (ws' := (cx q ca C L f w d st tg hi mi go)) [0, 1, 2, 3, 4, 5, 6, 7, 8, 9, 10, 11] (by decide) rfl
      have hKc := hK.sub (tys' := (kx ca)) [0, 1, 2, 3, 4, 5, 6] rfl
      have hFc := va_free (wc := (cx q ca C L f w d st tg hi mi go)) hD hS hA [0, 1, 2, 3, 4, 5, 6, 7, 8, 9, 10, 11] rfl
      refine va_callv (va_runV (As := [.ref (q 1), .ref (q 3)]) (rest := []) ⟨hx, hb, hml, hown, hts⟩ (c_X_old1 l dC dI q ca C L f w d st tg hi mi go H.size hf hI hz hne9) (cwV 2 hts gX1_makeRoom_X1_oldestGoes rfl rfl rfl (by decide +kernel) ⟨Nat.le_of_ble_eq_true rfl, Nat.le_of_ble_eq_true rfl⟩) ⟨fun a U g mk q => by obtain ⟨q0, q1, qP, qK, qD, qN⟩ := q; exact ⟨q0, q1, qP, va_K.moved (u := U) (U := U.calling g mk a) (Vm.Alike.refl U.vm) qK, qD, va_tabs rfl (rfl : U.vm = (U.calling g mk a).vm) qN⟩, va_recv hKc hPc (ci := 1) (q0 := 0) rfl rfl, fun U hU hW => ⟨rfl, by rw [hU], by rw [hU]; exact hPc, va_K.moved hW.alike hKc, hDc.weaken (fun _ _ _ _ => trivial), va_Nw.warmM hW hN⟩⟩ rfl rfl hl.1 rfl (lv_room (Nat.le_of_ble_eq_true rfl)) dX1_makeRoom_58 ⟨Nat.le_of_ble_eq_true rfl, Nat.le_of_ble_eq_true rfl⟩) hS (fun q _ h => hFc q h) hFc (fun u t H1 locs ht hvm hw hB hz1 hk1 hS => ?_)
      obtain ⟨L1, w1, d1, st1, tg1, hi1, mi1, go1⟩ := u
      obtain ⟨f1, hf1, hP1, hK1, hD1⟩ := hB
      rw [ht] at hP1
      cases hw
      obtain ⟨f_1, ef_1⟩ : ∃ z, z = f1 := ⟨_, rfl⟩
      rw [← ef_1] at hf1 hP1 hD1
      clear ef_1 f1
      have hfx_2 := hf1
      obtain ⟨hP, hD⟩ := va_join (wr := []) (w1 := (cx q ca C (ap_mv L (ap_old (L 1)) 1 3) f_1 w (ap_cd d (ap_old (L 1))) (ap_cs w d st (ap_old (L 1))) tg hi mi (go + 1))) hP hD [0, 1, 2, 3, 4, 5, 6, 7, 8, 9, 10, 11] [] rfl rfl (by decide) (by decide) hk1 hFc hP1 hD1
      generalize H1 = H at hP hS ⊢
      replace hP : va_P (dC, dI) vwCl (cx q ca C (ap_mv L (ap_old (L 1)) 1 3) f_1 w (ap_cd d (ap_old (L 1))) (ap_cs w d st (ap_old (L 1))) tg hi mi (go + 1)) H := hP
      replace hD : va_D A (cx q ca C (ap_mv L (ap_old (L 1)) 1 3) f_1 w (ap_cd d (ap_old (L 1))) (ap_cs w d st (ap_old (L 1))) tg hi mi (go + 1)) := hD
      refine lv_goto (tgt := 76) hx hb dX1_makeRoom_61 (by decide) ?_
      exact W.vret hx hb hr (fun t ht hW => ⟨⟨(ap_mv L (ap_old (L 1)) 1 3, w, ap_cd d (ap_old (L 1)), ap_cs w d st (ap_old (L 1)), tg, hi, mi, go + 1), rfl, hfin9, f_1, hfx_2, by rw [ht]; exact hP, va_K.moved hW.alike hK, hD⟩, hS.F ht⟩) hS.2.2 dX1_makeRoom_76
    · skip
      replace c_42 : ¬ (tg < ((L 1).length)) := fun h9 => c_42 ((nI_ltI (a := tg) (b := (L 1).length) (by omega) (by omega)).mpr h9)
      refine lv_iload_n hx hb dX1_makeRoom_45 rfl (lv_at hl 0 rfl) ?_
      refine lv_if_eq (tgt := 64) hx hb dX1_makeRoom_46 (by decide) (fun c_46 => ?_) (fun c_46 => ?_)
      · skip
        replace c_46 : 0 = 0 := (nI_eq (a := 0) (b := 0) (by omega) (by omega)).mp c_46
        refine lv_aload_n hx hb dX1_makeRoom_64 rfl (lv_at hl 2 rfl) ?_
        refine lv_aload_n hx hb dX1_makeRoom_65 rfl (lv_at hl 2 rfl) ?_
        refine va_get (D := (dC, dI)) (ci := 1) (v := .ref (q 2)) (C := RX1) (T := TX1) (N := 12) hx hb hts hwX1 hown hK hP 0 rfl rfl 2 (by decide) (hts (.fieldLink RX1 16 "ArcCache" "cameAgain" "LArcCache$AddressList;") (by decide +kernel)) (fun _ h9 => h9) rfl dX1_makeRoom_66 ?_
        refine lv_aload_n hx hb dX1_makeRoom_69 rfl (lv_at hl 2 rfl) ?_
        refine va_get (D := (dC, dI)) (ci := 1) (v := .ref (q 4)) (C := RX1) (T := TX1) (N := 12) hx hb hts hwX1 hown hK hP 0 rfl rfl 4 (by decide) (hts (.fieldLink RX1 22 "ArcCache" "wentAgain" "LArcCache$AddressList;") (by decide +kernel)) (fun _ h9 => h9) rfl dX1_makeRoom_70 ?_
        have hcd9 : ¬ (tg < (L 1).length ∨ ((L 1).length = tg ∧ 0 < tg ∧ ap_wl L x = 4)) := fun h9 => h9.elim c_42 (fun h9 => by first | exact c_13 h9.1 | omega | exact hm_4 ((ap_wl4 hI).mp h9.2.2))
        have emk9 : ap_mk w tg x (L, d, st, go) = ap_og w 2 (L, d, st, go) := ap_mk_2 hcd9
        by_cases hne9 : L 2 = []
        · skip
          have hfin9 : (L, w, d, st, tg, hi, mi, go) = ap_tu w tg hi mi (ap_mk w tg x (L, d, st, go)) := by rw [emk9]; unfold ap_og; rw [if_pos hne9]; rfl
          have hPc := hP.sub (ws' := (cx q ca C L f w d st tg hi mi go)) [0, 1, 2, 3, 4, 5, 6, 7, 8, 9, 10, 11] rfl
          have hDc := hD.sub (ws' := (cx q ca C L f w d st tg hi mi go)) [0, 1, 2, 3, 4, 5, 6, 7, 8, 9, 10, 11] (by decide) rfl
          have hKc := hK.sub (tys' := (kx ca)) [0, 1, 2, 3, 4, 5, 6] rfl
          have hFc := va_free (wc := (cx q ca C L f w d st tg hi mi go)) hD hS hA [0, 1, 2, 3, 4, 5, 6, 7, 8, 9, 10, 11] rfl
          refine va_callv (va_runV (As := [.ref (q 2), .ref (q 4)]) (rest := []) ⟨hx, hb, hml, hown, hts⟩ (c_X_old2e l dC dI q ca C L f w d st tg hi mi go H.size hf hI hz hne9) (cwV 2 hts gX1_makeRoom_X1_oldestGoes rfl rfl rfl (by decide +kernel) ⟨Nat.le_of_ble_eq_true rfl, Nat.le_of_ble_eq_true rfl⟩) ⟨fun a U g mk q => by obtain ⟨q0, q1, qP, qK, qD, qN⟩ := q; exact ⟨q0, q1, qP, va_K.moved (u := U) (U := U.calling g mk a) (Vm.Alike.refl U.vm) qK, qD, va_tabs rfl (rfl : U.vm = (U.calling g mk a).vm) qN⟩, va_recv hKc hPc (ci := 1) (q0 := 0) rfl rfl, fun U hU hW => ⟨rfl, by rw [hU], by rw [hU]; exact hPc, va_K.moved hW.alike hKc, hDc.weaken (fun _ _ _ _ => trivial), va_Nw.warmM hW hN⟩⟩ rfl rfl hl.1 rfl (lv_room (Nat.le_of_ble_eq_true rfl)) dX1_makeRoom_73 ⟨Nat.le_of_ble_eq_true rfl, Nat.le_of_ble_eq_true rfl⟩) hS (fun q _ h => hFc q h) hFc (fun u t H1 locs ht hvm hw hB hz1 hk1 hS => ?_)
          obtain ⟨L1, w1, d1, st1, tg1, hi1, mi1, go1⟩ := u
          obtain ⟨f1, hf1, hP1, hK1, hD1⟩ := hB
          rw [ht] at hP1
          cases hw
          obtain ⟨f_3, ef_3⟩ : ∃ z, z = f1 := ⟨_, rfl⟩
          rw [← ef_3] at hf1 hP1 hD1
          clear ef_3 f1
          have hfx_4 := hf1
          obtain ⟨hP, hD⟩ := va_join (wr := []) (w1 := (cx q ca C L f_3 w d st tg hi mi go)) hP hD [0, 1, 2, 3, 4, 5, 6, 7, 8, 9, 10, 11] [] rfl rfl (by decide) (by decide) hk1 hFc hP1 hD1
          generalize H1 = H at hP hS ⊢
          replace hP : va_P (dC, dI) vwCl (cx q ca C L f_3 w d st tg hi mi go) H := hP
          replace hD : va_D A (cx q ca C L f_3 w d st tg hi mi go) := hD
          exact W.vret hx hb hr (fun t ht hW => ⟨⟨(L, w, d, st, tg, hi, mi, go), rfl, hfin9, f_3, hfx_4, by rw [ht]; exact hP, va_K.moved hW.alike hK, hD⟩, hS.F ht⟩) hS.2.2 dX1_makeRoom_76
        · skip
          have hfin9 : (ap_mv L (ap_old (L 2)) 2 4, w, ap_cd d (ap_old (L 2)), ap_cs w d st (ap_old (L 2)), tg, hi, mi, go + 1) = ap_tu w tg hi mi (ap_mk w tg x (L, d, st, go)) := by rw [emk9]; unfold ap_og; rw [if_neg hne9]; rfl
          have hPc := hP.sub (ws' := (cx q ca C L f w d st tg hi mi go)) [0, 1, 2, 3, 4, 5, 6, 7, 8, 9, 10, 11] rfl
          have hDc := hD.sub (ws' := (cx q ca C L f w d st tg hi mi go)) [0, 1, 2, 3, 4, 5, 6, 7, 8, 9, 10, 11] (by decide) rfl
          have hKc := hK.sub (tys' := (kx ca)) [0, 1, 2, 3, 4, 5, 6] rfl
          have hFc := va_free (wc := (cx q ca C L f w d st tg hi mi go)) hD hS hA [0, 1, 2, 3, 4, 5, 6, 7, 8, 9, 10, 11] rfl
          refine va_callv (va_runV (As := [.ref (q 2), .ref (q 4)]) (rest := []) ⟨hx, hb, hml, hown, hts⟩ (c_X_old2 l dC dI q ca C L f w d st tg hi mi go H.size hf hI hz hne9) (cwV 2 hts gX1_makeRoom_X1_oldestGoes rfl rfl rfl (by decide +kernel) ⟨Nat.le_of_ble_eq_true rfl, Nat.le_of_ble_eq_true rfl⟩) ⟨fun a U g mk q => by obtain ⟨q0, q1, qP, qK, qD, qN⟩ := q; exact ⟨q0, q1, qP, va_K.moved (u := U) (U := U.calling g mk a) (Vm.Alike.refl U.vm) qK, qD, va_tabs rfl (rfl : U.vm = (U.calling g mk a).vm) qN⟩, va_recv hKc hPc (ci := 1) (q0 := 0) rfl rfl, fun U hU hW => ⟨rfl, by rw [hU], by rw [hU]; exact hPc, va_K.moved hW.alike hKc, hDc.weaken (fun _ _ _ _ => trivial), va_Nw.warmM hW hN⟩⟩ rfl rfl hl.1 rfl (lv_room (Nat.le_of_ble_eq_true rfl)) dX1_makeRoom_73 ⟨Nat.le_of_ble_eq_true rfl, Nat.le_of_ble_eq_true rfl⟩) hS (fun q _ h => hFc q h) hFc (fun u t H1 locs ht hvm hw hB hz1 hk1 hS => ?_)
          obtain ⟨L1, w1, d1, st1, tg1, hi1, mi1, go1⟩ := u
          obtain ⟨f1, hf1, hP1, hK1, hD1⟩ := hB
          rw [ht] at hP1
          cases hw
          obtain ⟨f_5, ef_5⟩ : ∃ z, z = f1 := ⟨_, rfl⟩
          rw [← ef_5] at hf1 hP1 hD1
          clear ef_5 f1
          have hfx_6 := hf1
          obtain ⟨hP, hD⟩ := va_join (wr := []) (w1 := (cx q ca C (ap_mv L (ap_old (L 2)) 2 4) f_5 w (ap_cd d (ap_old (L 2))) (ap_cs w d st (ap_old (L 2))) tg hi mi (go + 1))) hP hD [0, 1, 2, 3, 4, 5, 6, 7, 8, 9, 10, 11] [] rfl rfl (by decide) (by decide) hk1 hFc hP1 hD1
          generalize H1 = H at hP hS ⊢
          replace hP : va_P (dC, dI) vwCl (cx q ca C (ap_mv L (ap_old (L 2)) 2 4) f_5 w (ap_cd d (ap_old (L 2))) (ap_cs w d st (ap_old (L 2))) tg hi mi (go + 1)) H := hP
          replace hD : va_D A (cx q ca C (ap_mv L (ap_old (L 2)) 2 4) f_5 w (ap_cd d (ap_old (L 2))) (ap_cs w d st (ap_old (L 2))) tg hi mi (go + 1)) := hD
          exact W.vret hx hb hr (fun t ht hW => ⟨⟨(ap_mv L (ap_old (L 2)) 2 4, w, ap_cd d (ap_old (L 2)), ap_cs w d st (ap_old (L 2)), tg, hi, mi, go + 1), rfl, hfin9, f_5, hfx_6, by rw [ht]; exact hP, va_K.moved hW.alike hK, hD⟩, hS.F ht⟩) hS.2.2 dX1_makeRoom_76
      · skip
        replace c_46 : ¬ (0 = 0) := fun h9 => c_46 ((nI_eq (a := 0) (b := 0) (by omega) (by omega)).mpr h9)
        exact absurd c_46 (by omega)
  · skip
    replace c_13 : ((L 1).length) = tg := (nI_eq (a := (L 1).length) (b := tg) (by omega) (by omega)).mp c_13
    refine lv_iload_n hx hb dX1_makeRoom_16 rfl (lv_at hl 0 rfl) ?_
    refine lv_if_le (tgt := 35) hx hb dX1_makeRoom_17 (by decide) (fun c_17 => ?_) (fun c_17 => ?_)
    · skip
      replace c_17 : ((L 1).length) ≤ 0 := (nI_leI (a := (L 1).length) (b := 0) (by omega) (by omega)).mp c_17
      refine lv_iconst (v := nI 0) hx hb dX1_makeRoom_35 (by decide) ?_
      refine lv_istore_n (lv' := [(3, .int (nI 0)), (2, .int (nI ((L 1).length))), (0, .ref (q 0)), (1, .int x)]) hx hb dX1_makeRoom_36 rfl hl (by decide) rfl (fun ls hl => ?_)
      refine lv_iload_n hx hb dX1_makeRoom_37 rfl (lv_at hl 1 rfl) ?_
      refine lv_aload_n hx hb dX1_makeRoom_38 rfl (lv_at hl 2 rfl) ?_
      refine va_get (D := (dC, dI)) (ci := 1) (v := .int (nI tg)) (C := RX1) (T := TX1) (N := 12) hx hb hts hwX1 hown hK hP 0 rfl rfl 8 (by decide) (hts (.fieldLink RX1 55 "ArcCache" "targetCount" "I") (by decide +kernel)) (fun _ h9 => h9) rfl dX1_makeRoom_39 ?_
      refine lv_icmp_gt (tgt := 49) hx hb dX1_makeRoom_42 (by decide) (fun c_42 => ?_) (fun c_42 => ?_)
      · skip
        replace c_42 : tg < ((L 1).length) := (nI_ltI (a := tg) (b := (L 1).length) (by omega) (by omega)).mp c_42
        refine lv_aload_n hx hb dX1_makeRoom_49 rfl (lv_at hl 2 rfl) ?_
        refine lv_aload_n hx hb dX1_makeRoom_50 rfl (lv_at hl 2 rfl) ?_
        refine va_get (D := (dC, dI)) (ci := 1) (v := .ref (q 1)) (C := RX1) (T := TX1) (N := 12) hx hb hts hwX1 hown hK hP 0 rfl rfl 1 (by decide) (hts (.fieldLink RX1 10 "ArcCache" "cameOnce" "LArcCache$AddressList;") (by decide +kernel)) (fun _ h9 => h9) rfl dX1_makeRoom_51 ?_
        refine lv_aload_n hx hb dX1_makeRoom_54 rfl (lv_at hl 2 rfl) ?_
        refine va_get (D := (dC, dI)) (ci := 1) (v := .ref (q 3)) (C := RX1) (T := TX1) (N := 12) hx hb hts hwX1 hown hK hP 0 rfl rfl 3 (by decide) (hts (.fieldLink RX1 19 "ArcCache" "wentOnce" "LArcCache$AddressList;") (by decide +kernel)) (fun _ h9 => h9) rfl dX1_makeRoom_55 ?_
        have hcd9 : tg < (L 1).length ∨ ((L 1).length = tg ∧ 0 < tg ∧ ap_wl L x = 4) := by first | exact Or.inl c_42 | exact Or.inr ⟨c_13, by omega, ap_wl_of hI hm_4⟩
        have emk9 : ap_mk w tg x (L, d, st, go) = ap_og w 1 (L, d, st, go) := ap_mk_1 hcd9
        have hne9 : L 1 ≠ [] := ap_ne (by omega)
        have hfin9 : (ap_mv L (ap_old (L 1)) 1 3, w, ap_cd d (ap_old (L 1)), ap_cs w d st (ap_old (L 1)), tg, hi, mi, go + 1) = ap_tu w tg hi mi (ap_mk w tg x (L, d, st, go)) := by rw [emk9]; unfold ap_og; rw [if_neg hne9]; rfl
        have hPc := hP.sub (ws' := (cx q ca C L f w d st tg hi mi go)) [0, 1, 2, 3, 4, 5, 6, 7, 8, 9, 10, 11] rfl
        have hDc := hD.sub (ws' := (cx q ca C L f w d st tg hi mi go)) [0, 1, 2, 3, 4, 5, 6, 7, 8, 9, 10, 11] (by decide) rfl
        have hKc := hK.sub (tys' := (kx ca)) [0, 1, 2, 3, 4, 5, 6] rfl
        have hFc := va_free (wc := (cx q ca C L f w d st tg hi mi go)) hD hS hA [0, 1, 2, 3, 4, 5, 6, 7, 8, 9, 10, 11] rfl
        refine va_callv (va_runV (As := [.ref (q 1), .ref (q 3)]) (rest := []) ⟨hx, hb, hml, hown, hts⟩ (c_X_old1 l dC dI q ca C L f w d st tg hi mi go H.size hf hI hz hne9) (cwV 2 hts gX1_makeRoom_X1_oldestGoes rfl rfl rfl (by decide +kernel) ⟨Nat.le_of_ble_eq_true rfl, Nat.le_of_ble_eq_true rfl⟩) ⟨fun a U g mk q => by obtain ⟨q0, q1, qP, qK, qD, qN⟩ := q; exact ⟨q0, q1, qP, va_K.moved (u := U) (U := U.calling g mk a) (Vm.Alike.refl U.vm) qK, qD, va_tabs rfl (rfl : U.vm = (U.calling g mk a).vm) qN⟩, va_recv hKc hPc (ci := 1) (q0 := 0) rfl rfl, fun U hU hW => ⟨rfl, by rw [hU], by rw [hU]; exact hPc, va_K.moved hW.alike hKc, hDc.weaken (fun _ _ _ _ => trivial), va_Nw.warmM hW hN⟩⟩ rfl rfl hl.1 rfl (lv_room (Nat.le_of_ble_eq_true rfl)) dX1_makeRoom_58 ⟨Nat.le_of_ble_eq_true rfl, Nat.le_of_ble_eq_true rfl⟩) hS (fun q _ h => hFc q h) hFc (fun u t H1 locs ht hvm hw hB hz1 hk1 hS => ?_)
        obtain ⟨L1, w1, d1, st1, tg1, hi1, mi1, go1⟩ := u
        obtain ⟨f1, hf1, hP1, hK1, hD1⟩ := hB
        rw [ht] at hP1
        cases hw
        obtain ⟨f_7, ef_7⟩ : ∃ z, z = f1 := ⟨_, rfl⟩
        rw [← ef_7] at hf1 hP1 hD1
        clear ef_7 f1
        have hfx_8 := hf1
        obtain ⟨hP, hD⟩ := va_join (wr := []) (w1 := (cx q ca C (ap_mv L (ap_old (L 1)) 1 3) f_7 w (ap_cd d (ap_old (L 1))) (ap_cs w d st (ap_old (L 1))) tg hi mi (go + 1))) hP hD [0, 1, 2, 3, 4, 5, 6, 7, 8, 9, 10, 11] [] rfl rfl (by decide) (by decide) hk1 hFc hP1 hD1
        generalize H1 = H at hP hS ⊢
        replace hP : va_P (dC, dI) vwCl (cx q ca C (ap_mv L (ap_old (L 1)) 1 3) f_7 w (ap_cd d (ap_old (L 1))) (ap_cs w d st (ap_old (L 1))) tg hi mi (go + 1)) H := hP
        replace hD : va_D A (cx q ca C (ap_mv L (ap_old (L 1)) 1 3) f_7 w (ap_cd d (ap_old (L 1))) (ap_cs w d st (ap_old (L 1))) tg hi mi (go + 1)) := hD
        refine lv_goto (tgt := 76) hx hb dX1_makeRoom_61 (by decide) ?_
        exact W.vret hx hb hr (fun t ht hW => ⟨⟨(ap_mv L (ap_old (L 1)) 1 3, w, ap_cd d (ap_old (L 1)), ap_cs w d st (ap_old (L 1)), tg, hi, mi, go + 1), rfl, hfin9, f_7, hfx_8, by rw [ht]; exact hP, va_K.moved hW.alike hK, hD⟩, hS.F ht⟩) hS.2.2 dX1_makeRoom_76
      · skip
        replace c_42 : ¬ (tg < ((L 1).length)) := fun h9 => c_42 ((nI_ltI (a := tg) (b := (L 1).length) (by omega) (by omega)).mpr h9)
        refine lv_iload_n hx hb dX1_makeRoom_45 rfl (lv_at hl 0 rfl) ?_
        refine lv_if_eq (tgt := 64) hx hb dX1_makeRoom_46 (by decide) (fun c_46 => ?_) (fun c_46 => ?_)
        · skip
          replace c_46 : 0 = 0 := (nI_eq (a := 0) (b := 0) (by omega) (by omega)).mp c_46
          refine lv_aload_n hx hb dX1_makeRoom_64 rfl (lv_at hl 2 rfl) ?_
          refine lv_aload_n hx hb dX1_makeRoom_65 rfl (lv_at hl 2 rfl) ?_
          refine va_get (D := (dC, dI)) (ci := 1) (v := .ref (q 2)) (C := RX1) (T := TX1) (N := 12) hx hb hts hwX1 hown hK hP 0 rfl rfl 2 (by decide) (hts (.fieldLink RX1 16 "ArcCache" "cameAgain" "LArcCache$AddressList;") (by decide +kernel)) (fun _ h9 => h9) rfl dX1_makeRoom_66 ?_
          refine lv_aload_n hx hb dX1_makeRoom_69 rfl (lv_at hl 2 rfl) ?_
          refine va_get (D := (dC, dI)) (ci := 1) (v := .ref (q 4)) (C := RX1) (T := TX1) (N := 12) hx hb hts hwX1 hown hK hP 0 rfl rfl 4 (by decide) (hts (.fieldLink RX1 22 "ArcCache" "wentAgain" "LArcCache$AddressList;") (by decide +kernel)) (fun _ h9 => h9) rfl dX1_makeRoom_70 ?_
          have hcd9 : ¬ (tg < (L 1).length ∨ ((L 1).length = tg ∧ 0 < tg ∧ ap_wl L x = 4)) := fun h9 => h9.elim c_42 (fun h9 => by first | exact c_13 h9.1 | omega | exact hm_4 ((ap_wl4 hI).mp h9.2.2))
          have emk9 : ap_mk w tg x (L, d, st, go) = ap_og w 2 (L, d, st, go) := ap_mk_2 hcd9
          by_cases hne9 : L 2 = []
          · skip
            have hfin9 : (L, w, d, st, tg, hi, mi, go) = ap_tu w tg hi mi (ap_mk w tg x (L, d, st, go)) := by rw [emk9]; unfold ap_og; rw [if_pos hne9]; rfl
            have hPc := hP.sub (ws' := (cx q ca C L f w d st tg hi mi go)) [0, 1, 2, 3, 4, 5, 6, 7, 8, 9, 10, 11] rfl
            have hDc := hD.sub (ws' := (cx q ca C L f w d st tg hi mi go)) [0, 1, 2, 3, 4, 5, 6, 7, 8, 9, 10, 11] (by decide) rfl
            have hKc := hK.sub (tys' := (kx ca)) [0, 1, 2, 3, 4, 5, 6] rfl
            have hFc := va_free (wc := (cx q ca C L f w d st tg hi mi go)) hD hS hA [0, 1, 2, 3, 4, 5, 6, 7, 8, 9, 10, 11] rfl
            refine va_callv (va_runV (As := [.ref (q 2), .ref (q 4)]) (rest := []) ⟨hx, hb, hml, hown, hts⟩ (c_X_old2e l dC dI q ca C L f w d st tg hi mi go H.size hf hI hz hne9) (cwV 2 hts gX1_makeRoom_X1_oldestGoes rfl rfl rfl (by decide +kernel) ⟨Nat.le_of_ble_eq_true rfl, Nat.le_of_ble_eq_true rfl⟩) ⟨fun a U g mk q => by obtain ⟨q0, q1, qP, qK, qD, qN⟩ := q; exact ⟨q0, q1, qP, va_K.moved (u := U) (U := U.calling g mk a) (Vm.Alike.refl U.vm) qK, qD, va_tabs rfl (rfl : U.vm = (U.calling g mk a).vm) qN⟩, va_recv hKc hPc (ci := 1) (q0 := 0) rfl rfl, fun U hU hW => ⟨rfl, by rw [hU], by rw [hU]; exact hPc, va_K.moved hW.alike hKc, hDc.weaken (fun _ _ _ _ => trivial), va_Nw.warmM hW hN⟩⟩ rfl rfl hl.1 rfl (lv_room (Nat.le_of_ble_eq_true rfl)) dX1_makeRoom_73 ⟨Nat.le_of_ble_eq_true rfl, Nat.le_of_ble_eq_true rfl⟩) hS (fun q _ h => hFc q h) hFc (fun u t H1 locs ht hvm hw hB hz1 hk1 hS => ?_)
            obtain ⟨L1, w1, d1, st1, tg1, hi1, mi1, go1⟩ := u
            obtain ⟨f1, hf1, hP1, hK1, hD1⟩ := hB
            rw [ht] at hP1
            cases hw
            obtain ⟨f_9, ef_9⟩ : ∃ z, z = f1 := ⟨_, rfl⟩
            rw [← ef_9] at hf1 hP1 hD1
            clear ef_9 f1
            have hfx_10 := hf1
            obtain ⟨hP, hD⟩ := va_join (wr := []) (w1 := (cx q ca C L f_9 w d st tg hi mi go)) hP hD [0, 1, 2, 3, 4, 5, 6, 7, 8, 9, 10, 11] [] rfl rfl (by decide) (by decide) hk1 hFc hP1 hD1
            generalize H1 = H at hP hS ⊢
            replace hP : va_P (dC, dI) vwCl (cx q ca C L f_9 w d st tg hi mi go) H := hP
            replace hD : va_D A (cx q ca C L f_9 w d st tg hi mi go) := hD
            exact W.vret hx hb hr (fun t ht hW => ⟨⟨(L, w, d, st, tg, hi, mi, go), rfl, hfin9, f_9, hfx_10, by rw [ht]; exact hP, va_K.moved hW.alike hK, hD⟩, hS.F ht⟩) hS.2.2 dX1_makeRoom_76
          · skip
            have hfin9 : (ap_mv L (ap_old (L 2)) 2 4, w, ap_cd d (ap_old (L 2)), ap_cs w d st (ap_old (L 2)), tg, hi, mi, go + 1) = ap_tu w tg hi mi (ap_mk w tg x (L, d, st, go)) := by rw [emk9]; unfold ap_og; rw [if_neg hne9]; rfl
            have hPc := hP.sub (ws' := (cx q ca C L f w d st tg hi mi go)) [0, 1, 2, 3, 4, 5, 6, 7, 8, 9, 10, 11] rfl
            have hDc := hD.sub (ws' := (cx q ca C L f w d st tg hi mi go)) [0, 1, 2, 3, 4, 5, 6, 7, 8, 9, 10, 11] (by decide) rfl
            have hKc := hK.sub (tys' := (kx ca)) [0, 1, 2, 3, 4, 5, 6] rfl
            have hFc := va_free (wc := (cx q ca C L f w d st tg hi mi go)) hD hS hA [0, 1, 2, 3, 4, 5, 6, 7, 8, 9, 10, 11] rfl
            refine va_callv (va_runV (As := [.ref (q 2), .ref (q 4)]) (rest := []) ⟨hx, hb, hml, hown, hts⟩ (c_X_old2 l dC dI q ca C L f w d st tg hi mi go H.size hf hI hz hne9) (cwV 2 hts gX1_makeRoom_X1_oldestGoes rfl rfl rfl (by decide +kernel) ⟨Nat.le_of_ble_eq_true rfl, Nat.le_of_ble_eq_true rfl⟩) ⟨fun a U g mk q => by obtain ⟨q0, q1, qP, qK, qD, qN⟩ := q; exact ⟨q0, q1, qP, va_K.moved (u := U) (U := U.calling g mk a) (Vm.Alike.refl U.vm) qK, qD, va_tabs rfl (rfl : U.vm = (U.calling g mk a).vm) qN⟩, va_recv hKc hPc (ci := 1) (q0 := 0) rfl rfl, fun U hU hW => ⟨rfl, by rw [hU], by rw [hU]; exact hPc, va_K.moved hW.alike hKc, hDc.weaken (fun _ _ _ _ => trivial), va_Nw.warmM hW hN⟩⟩ rfl rfl hl.1 rfl (lv_room (Nat.le_of_ble_eq_true rfl)) dX1_makeRoom_73 ⟨Nat.le_of_ble_eq_true rfl, Nat.le_of_ble_eq_true rfl⟩) hS (fun q _ h => hFc q h) hFc (fun u t H1 locs ht hvm hw hB hz1 hk1 hS => ?_)
            obtain ⟨L1, w1, d1, st1, tg1, hi1, mi1, go1⟩ := u
            obtain ⟨f1, hf1, hP1, hK1, hD1⟩ := hB
            rw [ht] at hP1
            cases hw
            obtain ⟨f_11, ef_11⟩ : ∃ z, z = f1 := ⟨_, rfl⟩
            rw [← ef_11] at hf1 hP1 hD1
            clear ef_11 f1
            have hfx_12 := hf1
            obtain ⟨hP, hD⟩ := va_join (wr := []) (w1 := (cx q ca C (ap_mv L (ap_old (L 2)) 2 4) f_11 w (ap_cd d (ap_old (L 2))) (ap_cs w d st (ap_old (L 2))) tg hi mi (go + 1))) hP hD [0, 1, 2, 3, 4, 5, 6, 7, 8, 9, 10, 11] [] rfl rfl (by decide) (by decide) hk1 hFc hP1 hD1
            generalize H1 = H at hP hS ⊢
            replace hP : va_P (dC, dI) vwCl (cx q ca C (ap_mv L (ap_old (L 2)) 2 4) f_11 w (ap_cd d (ap_old (L 2))) (ap_cs w d st (ap_old (L 2))) tg hi mi (go + 1)) H := hP
            replace hD : va_D A (cx q ca C (ap_mv L (ap_old (L 2)) 2 4) f_11 w (ap_cd d (ap_old (L 2))) (ap_cs w d st (ap_old (L 2))) tg hi mi (go + 1)) := hD
            exact W.vret hx hb hr (fun t ht hW => ⟨⟨(ap_mv L (ap_old (L 2)) 2 4, w, ap_cd d (ap_old (L 2)), ap_cs w d st (ap_old (L 2)), tg, hi, mi, go + 1), rfl, hfin9, f_11, hfx_12, by rw [ht]; exact hP, va_K.moved hW.alike hK, hD⟩, hS.F ht⟩) hS.2.2 dX1_makeRoom_76
        · skip
          replace c_46 : ¬ (0 = 0) := fun h9 => c_46 ((nI_eq (a := 0) (b := 0) (by omega) (by omega)).mpr h9)
          exact absurd c_46 (by omega)
    · skip
      replace c_17 : ¬ (((L 1).length) ≤ 0) := fun h9 => c_17 ((nI_leI (a := (L 1).length) (b := 0) (by omega) (by omega)).mpr h9)
      refine lv_aload_n hx hb dX1_makeRoom_20 rfl (lv_at hl 1 rfl) ?_
      refine va_get (D := (dC, dI)) (ci := 1) (v := .ref (q 4)) (C := RX1) (T := TX1) (N := 12) hx hb hts hwX1 hown hK hP 0 rfl rfl 4 (by decide) (hts (.fieldLink RX1 22 "ArcCache" "wentAgain" "LArcCache$AddressList;") (by decide +kernel)) (fun _ h9 => h9) rfl dX1_makeRoom_21 ?_
      refine lv_iload_n hx hb dX1_makeRoom_24 rfl (lv_at hl 2 rfl) ?_
      have hPc := hP.sub (ws' := (cal (q 4) (q 8) (ca 4) ((L 4).length) (f 4))) [7, 8] rfl
      have hDc := hD.sub (ws' := (cal (q 4) (q 8) (ca 4) ((L 4).length) (f 4))) [7, 8] (by decide) rfl
      have hKc := hK.sub (tys' := (kal (ca 4))) [3] rfl
      have hFc := va_free (wc := (cal (q 4) (q 8) (ca 4) ((L 4).length) (f 4))) hD hS hA [7, 8] rfl
      refine va_calli (va_runV (As := [.int x]) (rest := []) ⟨hx, hb, hml, hown, hts⟩ (c_A_has l dC dI (q 4) (q 8) (ca 4) (L 4) (f 4) x H.size (Nat.le_trans z4 (by decide)) (hf 4 (by decide) (by decide))) (cwV 1 hts gX1_makeRoom_X0_has rfl rfl rfl (by decide +kernel) ⟨Nat.le_of_ble_eq_true rfl, Nat.le_of_ble_eq_true rfl⟩) ⟨fun a U g mk q => by obtain ⟨q0, q1, qP, qK, qD⟩ := q; exact ⟨q0, q1, qP, va_K.moved (u := U) (U := U.calling g mk a) (Vm.Alike.refl U.vm) qK, qD⟩, va_recv hKc hPc (ci := 0) (q0 := 0) rfl rfl, fun U hU hW => ⟨rfl, by rw [hU], by rw [hU]; exact hPc, va_K.moved hW.alike hKc, hDc.weaken (fun _ _ _ _ => trivial)⟩⟩ rfl rfl hl.1 rfl (lv_room (Nat.le_of_ble_eq_true rfl)) dX1_makeRoom_25 ⟨Nat.le_of_ble_eq_true rfl, Nat.le_of_ble_eq_true rfl⟩) hS (fun q _ h => hFc q h) hFc (fun r u t H1 locs ht hvm hw hB hz1 hk1 hS => ?_)
      obtain ⟨n1, f1⟩ := u
      obtain ⟨hP1, hK1, hD1⟩ := hB
      rw [ht] at hP1
      try dsimp only at hw hP1 hD1
      obtain ⟨hr9, hu⟩ := hw
      cases hu
      obtain ⟨hP, hD⟩ := va_join (wr := [(q 0, .inr (1, [.int (nI C), .ref (q 1), .ref (q 2), .ref (q 3), .ref (q 4), .ref (q 9), .ref (q 10), .ref (q 11), .int (nI tg), .int hi, .int mi, .int go])), (q 1, .inr (0, [.ref (q 5), .int (nI ((L 1).length))])), (q 5, .inl (ca 1, 64, .inl (f 1))), (q 2, .inr (0, [.ref (q 6), .int (nI ((L 2).length))])), (q 6, .inl (ca 2, 64, .inl (f 2))), (q 3, .inr (0, [.ref (q 7), .int (nI ((L 3).length))])), (q 7, .inl (ca 3, 64, .inl (f 3))), (q 9, .inl (ca 5, 64, .inl w)), (q 10, .inl (ca 6, 64, .inl d)), (q 11, .inl (ca 7, 64, .inl st))]) (w1 := (cal (q 4) (q 8) (ca 4) ((L 4).length) (f 4))) hP hD [7, 8] [0, 1, 2, 3, 4, 5, 6, 9, 10, 11] rfl rfl (by decide) (by decide) hk1 hFc hP1 hD1
      generalize H1 = H at hP hS ⊢
      replace hP := hP.sub (ws' := (cx q ca C L f w d st tg hi mi go)) [0, 1, 2, 3, 4, 5, 6, 10, 11, 7, 8, 9] rfl
      replace hD := hD.sub (ws' := (cx q ca C L f w d st tg hi mi go)) [0, 1, 2, 3, 4, 5, 6, 10, 11, 7, 8, 9] (by decide) rfl
      by_cases hm_4 : x ∈ L 4
      · rw [if_pos hm_4] at hr9
        subst hr9
        refine lv_if_eq (tgt := 35) hx hb dX1_makeRoom_28 (by decide) (fun c_28 => ?_) (fun c_28 => ?_)
        · skip
          replace c_28 : 1 = 0 := (nI_eq (a := 1) (b := 0) (by omega) (by omega)).mp c_28
          exact absurd c_28 (by omega)
        · skip
          replace c_28 : ¬ (1 = 0) := fun h9 => c_28 ((nI_eq (a := 1) (b := 0) (by omega) (by omega)).mpr h9)
          refine lv_iconst (v := nI 1) hx hb dX1_makeRoom_31 (by decide) ?_
          refine lv_goto (tgt := 36) hx hb dX1_makeRoom_32 (by decide) ?_
          refine lv_istore_n (lv' := [(3, .int (nI 1)), (2, .int (nI ((L 1).length))), (0, .ref (q 0)), (1, .int x)]) hx hb dX1_makeRoom_36 rfl hl (by decide) rfl (fun ls hl => ?_)
          refine lv_iload_n hx hb dX1_makeRoom_37 rfl (lv_at hl 1 rfl) ?_
          refine lv_aload_n hx hb dX1_makeRoom_38 rfl (lv_at hl 2 rfl) ?_
          refine va_get (D := (dC, dI)) (ci := 1) (v := .int (nI tg)) (C := RX1) (T := TX1) (N := 12) hx hb hts hwX1 hown hK hP 0 rfl rfl 8 (by decide) (hts (.fieldLink RX1 55 "ArcCache" "targetCount" "I") (by decide +kernel)) (fun _ h9 => h9) rfl dX1_makeRoom_39 ?_
          refine lv_icmp_gt (tgt := 49) hx hb dX1_makeRoom_42 (by decide) (fun c_42 => ?_) (fun c_42 => ?_)
          · skip
            replace c_42 : tg < ((L 1).length) := (nI_ltI (a := tg) (b := (L 1).length) (by omega) (by omega)).mp c_42
            refine lv_aload_n hx hb dX1_makeRoom_49 rfl (lv_at hl 2 rfl) ?_
            refine lv_aload_n hx hb dX1_makeRoom_50 rfl (lv_at hl 2 rfl) ?_
            refine va_get (D := (dC, dI)) (ci := 1) (v := .ref (q 1)) (C := RX1) (T := TX1) (N := 12) hx hb hts hwX1 hown hK hP 0 rfl rfl 1 (by decide) (hts (.fieldLink RX1 10 "ArcCache" "cameOnce" "LArcCache$AddressList;") (by decide +kernel)) (fun _ h9 => h9) rfl dX1_makeRoom_51 ?_
            refine lv_aload_n hx hb dX1_makeRoom_54 rfl (lv_at hl 2 rfl) ?_
            refine va_get (D := (dC, dI)) (ci := 1) (v := .ref (q 3)) (C := RX1) (T := TX1) (N := 12) hx hb hts hwX1 hown hK hP 0 rfl rfl 3 (by decide) (hts (.fieldLink RX1 19 "ArcCache" "wentOnce" "LArcCache$AddressList;") (by decide +kernel)) (fun _ h9 => h9) rfl dX1_makeRoom_55 ?_
            have hcd9 : tg < (L 1).length ∨ ((L 1).length = tg ∧ 0 < tg ∧ ap_wl L x = 4) := by first | exact Or.inl c_42 | exact Or.inr ⟨c_13, by omega, ap_wl_of hI hm_4⟩
            have emk9 : ap_mk w tg x (L, d, st, go) = ap_og w 1 (L, d, st, go) := ap_mk_1 hcd9
            have hne9 : L 1 ≠ [] := ap_ne (by omega)
            have hfin9 : (ap_mv L (ap_old (L 1)) 1 3, w, ap_cd d (ap_old (L 1)), ap_cs w d st (ap_old (L 1)), tg, hi, mi, go + 1) = ap_tu w tg hi mi (ap_mk w tg x (L, d, st, go)) := by rw [emk9]; unfold ap_og; rw [if_neg hne9]; rfl
            have hPc := hP.sub (ws' := (cx q ca C L f w d st tg hi mi go)) [0, 1, 2, 3, 4, 5, 6, 7, 8, 9, 10, 11] rfl
            have hDc := hD.sub (ws' := (cx q ca C L f w d st tg hi mi go)) [0, 1, 2, 3, 4, 5, 6, 7, 8, 9, 10, 11] (by decide) rfl
            have hKc := hK.sub (tys' := (kx ca)) [0, 1, 2, 3, 4, 5, 6] rfl
            have hFc := va_free (wc := (cx q ca C L f w d st tg hi mi go)) hD hS hA [0, 1, 2, 3, 4, 5, 6, 7, 8, 9, 10, 11] rfl
            refine va_callv (va_runV (As := [.ref (q 1), .ref (q 3)]) (rest := []) ⟨hx, hb, hml, hown, hts⟩ (c_X_old1 l dC dI q ca C L f w d st tg hi mi go H.size hf hI hz hne9) (cwV 2 hts gX1_makeRoom_X1_oldestGoes rfl rfl rfl (by decide +kernel) ⟨Nat.le_of_ble_eq_true rfl, Nat.le_of_ble_eq_true rfl⟩) ⟨fun a U g mk q => by obtain ⟨q0, q1, qP, qK, qD, qN⟩ := q; exact ⟨q0, q1, qP, va_K.moved (u := U) (U := U.calling g mk a) (Vm.Alike.refl U.vm) qK, qD, va_tabs rfl (rfl : U.vm = (U.calling g mk a).vm) qN⟩, va_recv hKc hPc (ci := 1) (q0 := 0) rfl rfl, fun U hU hW => ⟨rfl, by rw [hU], by rw [hU]; exact hPc, va_K.moved hW.alike hKc, hDc.weaken (fun _ _ _ _ => trivial), va_Nw.warmM hW hN⟩⟩ rfl rfl hl.1 rfl (lv_room (Nat.le_of_ble_eq_true rfl)) dX1_makeRoom_58 ⟨Nat.le_of_ble_eq_true rfl, Nat.le_of_ble_eq_true rfl⟩) hS (fun q _ h => hFc q h) hFc (fun u t H1 locs ht hvm hw hB hz1 hk1 hS => ?_)
            obtain ⟨L1, w1, d1, st1, tg1, hi1, mi1, go1⟩ := u
            obtain ⟨f1, hf1, hP1, hK1, hD1⟩ := hB
            rw [ht] at hP1
            cases hw
            obtain ⟨f_13, ef_13⟩ : ∃ z, z = f1 := ⟨_, rfl⟩
            rw [← ef_13] at hf1 hP1 hD1
            clear ef_13 f1
            have hfx_14 := hf1
            obtain ⟨hP, hD⟩ := va_join (wr := []) (w1 := (cx q ca C (ap_mv L (ap_old (L 1)) 1 3) f_13 w (ap_cd d (ap_old (L 1))) (ap_cs w d st (ap_old (L 1))) tg hi mi (go + 1))) hP hD [0, 1, 2, 3, 4, 5, 6, 7, 8, 9, 10, 11] [] rfl rfl (by decide) (by decide) hk1 hFc hP1 hD1
            generalize H1 = H at hP hS ⊢
            replace hP : va_P (dC, dI) vwCl (cx q ca C (ap_mv L (ap_old (L 1)) 1 3) f_13 w (ap_cd d (ap_old (L 1))) (ap_cs w d st (ap_old (L 1))) tg hi mi (go + 1)) H := hP
            replace hD : va_D A (cx q ca C (ap_mv L (ap_old (L 1)) 1 3) f_13 w (ap_cd d (ap_old (L 1))) (ap_cs w d st (ap_old (L 1))) tg hi mi (go + 1)) := hD
            refine lv_goto (tgt := 76) hx hb dX1_makeRoom_61 (by decide) ?_
            exact W.vret hx hb hr (fun t ht hW => ⟨⟨(ap_mv L (ap_old (L 1)) 1 3, w, ap_cd d (ap_old (L 1)), ap_cs w d st (ap_old (L 1)), tg, hi, mi, go + 1), rfl, hfin9, f_13, hfx_14, by rw [ht]; exact hP, va_K.moved hW.alike hK, hD⟩, hS.F ht⟩) hS.2.2 dX1_makeRoom_76
          · skip
            replace c_42 : ¬ (tg < ((L 1).length)) := fun h9 => c_42 ((nI_ltI (a := tg) (b := (L 1).length) (by omega) (by omega)).mpr h9)
            refine lv_iload_n hx hb dX1_makeRoom_45 rfl (lv_at hl 0 rfl) ?_
            refine lv_if_eq (tgt := 64) hx hb dX1_makeRoom_46 (by decide) (fun c_46 => ?_) (fun c_46 => ?_)
            · skip
              replace c_46 : 1 = 0 := (nI_eq (a := 1) (b := 0) (by omega) (by omega)).mp c_46
              exact absurd c_46 (by omega)
            · skip
              replace c_46 : ¬ (1 = 0) := fun h9 => c_46 ((nI_eq (a := 1) (b := 0) (by omega) (by omega)).mpr h9)
              refine lv_aload_n hx hb dX1_makeRoom_49 rfl (lv_at hl 2 rfl) ?_
              refine lv_aload_n hx hb dX1_makeRoom_50 rfl (lv_at hl 2 rfl) ?_
              refine va_get (D := (dC, dI)) (ci := 1) (v := .ref (q 1)) (C := RX1) (T := TX1) (N := 12) hx hb hts hwX1 hown hK hP 0 rfl rfl 1 (by decide) (hts (.fieldLink RX1 10 "ArcCache" "cameOnce" "LArcCache$AddressList;") (by decide +kernel)) (fun _ h9 => h9) rfl dX1_makeRoom_51 ?_
              refine lv_aload_n hx hb dX1_makeRoom_54 rfl (lv_at hl 2 rfl) ?_
              refine va_get (D := (dC, dI)) (ci := 1) (v := .ref (q 3)) (C := RX1) (T := TX1) (N := 12) hx hb hts hwX1 hown hK hP 0 rfl rfl 3 (by decide) (hts (.fieldLink RX1 19 "ArcCache" "wentOnce" "LArcCache$AddressList;") (by decide +kernel)) (fun _ h9 => h9) rfl dX1_makeRoom_55 ?_
              have hcd9 : tg < (L 1).length ∨ ((L 1).length = tg ∧ 0 < tg ∧ ap_wl L x = 4) := by first | exact Or.inl c_42 | exact Or.inr ⟨c_13, by omega, ap_wl_of hI hm_4⟩
              have emk9 : ap_mk w tg x (L, d, st, go) = ap_og w 1 (L, d, st, go) := ap_mk_1 hcd9
              have hne9 : L 1 ≠ [] := ap_ne (by omega)
              have hfin9 : (ap_mv L (ap_old (L 1)) 1 3, w, ap_cd d (ap_old (L 1)), ap_cs w d st (ap_old (L 1)), tg, hi, mi, go + 1) = ap_tu w tg hi mi (ap_mk w tg x (L, d, st, go)) := by rw [emk9]; unfold ap_og; rw [if_neg hne9]; rfl
              have hPc := hP.sub (ws' := (cx q ca C L f w d st tg hi mi go)) [0, 1, 2, 3, 4, 5, 6, 7, 8, 9, 10, 11] rfl
              have hDc := hD.sub (ws' := (cx q ca C L f w d st tg hi mi go)) [0, 1, 2, 3, 4, 5, 6, 7, 8, 9, 10, 11] (by decide) rfl
              have hKc := hK.sub (tys' := (kx ca)) [0, 1, 2, 3, 4, 5, 6] rfl
              have hFc := va_free (wc := (cx q ca C L f w d st tg hi mi go)) hD hS hA [0, 1, 2, 3, 4, 5, 6, 7, 8, 9, 10, 11] rfl
              refine va_callv (va_runV (As := [.ref (q 1), .ref (q 3)]) (rest := []) ⟨hx, hb, hml, hown, hts⟩ (c_X_old1 l dC dI q ca C L f w d st tg hi mi go H.size hf hI hz hne9) (cwV 2 hts gX1_makeRoom_X1_oldestGoes rfl rfl rfl (by decide +kernel) ⟨Nat.le_of_ble_eq_true rfl, Nat.le_of_ble_eq_true rfl⟩) ⟨fun a U g mk q => by obtain ⟨q0, q1, qP, qK, qD, qN⟩ := q; exact ⟨q0, q1, qP, va_K.moved (u := U) (U := U.calling g mk a) (Vm.Alike.refl U.vm) qK, qD, va_tabs rfl (rfl : U.vm = (U.calling g mk a).vm) qN⟩, va_recv hKc hPc (ci := 1) (q0 := 0) rfl rfl, fun U hU hW => ⟨rfl, by rw [hU], by rw [hU]; exact hPc, va_K.moved hW.alike hKc, hDc.weaken (fun _ _ _ _ => trivial), va_Nw.warmM hW hN⟩⟩ rfl rfl hl.1 rfl (lv_room (Nat.le_of_ble_eq_true rfl)) dX1_makeRoom_58 ⟨Nat.le_of_ble_eq_true rfl, Nat.le_of_ble_eq_true rfl⟩) hS (fun q _ h => hFc q h) hFc (fun u t H1 locs ht hvm hw hB hz1 hk1 hS => ?_)
              obtain ⟨L1, w1, d1, st1, tg1, hi1, mi1, go1⟩ := u
              obtain ⟨f1, hf1, hP1, hK1, hD1⟩ := hB
              rw [ht] at hP1
              cases hw
              obtain ⟨f_15, ef_15⟩ : ∃ z, z = f1 := ⟨_, rfl⟩
              rw [← ef_15] at hf1 hP1 hD1
              clear ef_15 f1
              have hfx_16 := hf1
              obtain ⟨hP, hD⟩ := va_join (wr := []) (w1 := (cx q ca C (ap_mv L (ap_old (L 1)) 1 3) f_15 w (ap_cd d (ap_old (L 1))) (ap_cs w d st (ap_old (L 1))) tg hi mi (go + 1))) hP hD [0, 1, 2, 3, 4, 5, 6, 7, 8, 9, 10, 11] [] rfl rfl (by decide) (by decide) hk1 hFc hP1 hD1
              generalize H1 = H at hP hS ⊢
              replace hP : va_P (dC, dI) vwCl (cx q ca C (ap_mv L (ap_old (L 1)) 1 3) f_15 w (ap_cd d (ap_old (L 1))) (ap_cs w d st (ap_old (L 1))) tg hi mi (go + 1)) H := hP
              replace hD : va_D A (cx q ca C (ap_mv L (ap_old (L 1)) 1 3) f_15 w (ap_cd d (ap_old (L 1))) (ap_cs w d st (ap_old (L 1))) tg hi mi (go + 1)) := hD
              refine lv_goto (tgt := 76) hx hb dX1_makeRoom_61 (by decide) ?_
              exact W.vret hx hb hr (fun t ht hW => ⟨⟨(ap_mv L (ap_old (L 1)) 1 3, w, ap_cd d (ap_old (L 1)), ap_cs w d st (ap_old (L 1)), tg, hi, mi, go + 1), rfl, hfin9, f_15, hfx_16, by rw [ht]; exact hP, va_K.moved hW.alike hK, hD⟩, hS.F ht⟩) hS.2.2 dX1_makeRoom_76
      · rw [if_neg hm_4] at hr9
        subst hr9
        refine lv_if_eq (tgt := 35) hx hb dX1_makeRoom_28 (by decide) (fun c_28 => ?_) (fun c_28 => ?_)
        · skip
          replace c_28 : 0 = 0 := (nI_eq (a := 0) (b := 0) (by omega) (by omega)).mp c_28
          refine lv_iconst (v := nI 0) hx hb dX1_makeRoom_35 (by decide) ?_
          refine lv_istore_n (lv' := [(3, .int (nI 0)), (2, .int (nI ((L 1).length))), (0, .ref (q 0)), (1, .int x)]) hx hb dX1_makeRoom_36 rfl hl (by decide) rfl (fun ls hl => ?_)
          refine lv_iload_n hx hb dX1_makeRoom_37 rfl (lv_at hl 1 rfl) ?_
          refine lv_aload_n hx hb dX1_makeRoom_38 rfl (lv_at hl 2 rfl) ?_
          refine va_get (D := (dC, dI)) (ci := 1) (v := .int (nI tg)) (C := RX1) (T := TX1) (N := 12) hx hb hts hwX1 hown hK hP 0 rfl rfl 8 (by decide) (hts (.fieldLink RX1 55 "ArcCache" "targetCount" "I") (by decide +kernel)) (fun _ h9 => h9) rfl dX1_makeRoom_39 ?_
          refine lv_icmp_gt (tgt := 49) hx hb dX1_makeRoom_42 (by decide) (fun c_42 => ?_) (fun c_42 => ?_)
          · skip
            replace c_42 : tg < ((L 1).length) := (nI_ltI (a := tg) (b := (L 1).length) (by omega) (by omega)).mp c_42
            refine lv_aload_n hx hb dX1_makeRoom_49 rfl (lv_at hl 2 rfl) ?_
            refine lv_aload_n hx hb dX1_makeRoom_50 rfl (lv_at hl 2 rfl) ?_
            refine va_get (D := (dC, dI)) (ci := 1) (v := .ref (q 1)) (C := RX1) (T := TX1) (N := 12) hx hb hts hwX1 hown hK hP 0 rfl rfl 1 (by decide) (hts (.fieldLink RX1 10 "ArcCache" "cameOnce" "LArcCache$AddressList;") (by decide +kernel)) (fun _ h9 => h9) rfl dX1_makeRoom_51 ?_
            refine lv_aload_n hx hb dX1_makeRoom_54 rfl (lv_at hl 2 rfl) ?_
            refine va_get (D := (dC, dI)) (ci := 1) (v := .ref (q 3)) (C := RX1) (T := TX1) (N := 12) hx hb hts hwX1 hown hK hP 0 rfl rfl 3 (by decide) (hts (.fieldLink RX1 19 "ArcCache" "wentOnce" "LArcCache$AddressList;") (by decide +kernel)) (fun _ h9 => h9) rfl dX1_makeRoom_55 ?_
            have hcd9 : tg < (L 1).length ∨ ((L 1).length = tg ∧ 0 < tg ∧ ap_wl L x = 4) := by first | exact Or.inl c_42 | exact Or.inr ⟨c_13, by omega, ap_wl_of hI hm_4⟩
            have emk9 : ap_mk w tg x (L, d, st, go) = ap_og w 1 (L, d, st, go) := ap_mk_1 hcd9
            have hne9 : L 1 ≠ [] := ap_ne (by omega)
            have hfin9 : (ap_mv L (ap_old (L 1)) 1 3, w, ap_cd d (ap_old (L 1)), ap_cs w d st (ap_old (L 1)), tg, hi, mi, go + 1) = ap_tu w tg hi mi (ap_mk w tg x (L, d, st, go)) := by rw [emk9]; unfold ap_og; rw [if_neg hne9]; rfl
            have hPc := hP.sub (ws' := (cx q ca C L f w d st tg hi mi go)) [0, 1, 2, 3, 4, 5, 6, 7, 8, 9, 10, 11] rfl
            have hDc := hD.sub (ws' := (cx q ca C L f w d st tg hi mi go)) [0, 1, 2, 3, 4, 5, 6, 7, 8, 9, 10, 11] (by decide) rfl
            have hKc := hK.sub (tys' := (kx ca)) [0, 1, 2, 3, 4, 5, 6] rfl
            have hFc := va_free (wc := (cx q ca C L f w d st tg hi mi go)) hD hS hA [0, 1, 2, 3, 4, 5, 6, 7, 8, 9, 10, 11] rfl
            refine va_callv (va_runV (As := [.ref (q 1), .ref (q 3)]) (rest := []) ⟨hx, hb, hml, hown, hts⟩ (c_X_old1 l dC dI q ca C L f w d st tg hi mi go H.size hf hI hz hne9) (cwV 2 hts gX1_makeRoom_X1_oldestGoes rfl rfl rfl (by decide +kernel) ⟨Nat.le_of_ble_eq_true rfl, Nat.le_of_ble_eq_true rfl⟩) ⟨fun a U g mk q => by obtain ⟨q0, q1, qP, qK, qD, qN⟩ := q; exact ⟨q0, q1, qP, va_K.moved (u := U) (U := U.calling g mk a) (Vm.Alike.refl U.vm) qK, qD, va_tabs rfl (rfl : U.vm = (U.calling g mk a).vm) qN⟩, va_recv hKc hPc (ci := 1) (q0 := 0) rfl rfl, fun U hU hW => ⟨rfl, by rw [hU], by rw [hU]; exact hPc, va_K.moved hW.alike hKc, hDc.weaken (fun _ _ _ _ => trivial), va_Nw.warmM hW hN⟩⟩ rfl rfl hl.1 rfl (lv_room (Nat.le_of_ble_eq_true rfl)) dX1_makeRoom_58 ⟨Nat.le_of_ble_eq_true rfl, Nat.le_of_ble_eq_true rfl⟩) hS (fun q _ h => hFc q h) hFc (fun u t H1 locs ht hvm hw hB hz1 hk1 hS => ?_)
            obtain ⟨L1, w1, d1, st1, tg1, hi1, mi1, go1⟩ := u
            obtain ⟨f1, hf1, hP1, hK1, hD1⟩ := hB
            rw [ht] at hP1
            cases hw
            obtain ⟨f_17, ef_17⟩ : ∃ z, z = f1 := ⟨_, rfl⟩
            rw [← ef_17] at hf1 hP1 hD1
            clear ef_17 f1
            have hfx_18 := hf1
            obtain ⟨hP, hD⟩ := va_join (wr := []) (w1 := (cx q ca C (ap_mv L (ap_old (L 1)) 1 3) f_17 w (ap_cd d (ap_old (L 1))) (ap_cs w d st (ap_old (L 1))) tg hi mi (go + 1))) hP hD [0, 1, 2, 3, 4, 5, 6, 7, 8, 9, 10, 11] [] rfl rfl (by decide) (by decide) hk1 hFc hP1 hD1
            generalize H1 = H at hP hS ⊢
            replace hP : va_P (dC, dI) vwCl (cx q ca C (ap_mv L (ap_old (L 1)) 1 3) f_17 w (ap_cd d (ap_old (L 1))) (ap_cs w d st (ap_old (L 1))) tg hi mi (go + 1)) H := hP
            replace hD : va_D A (cx q ca C (ap_mv L (ap_old (L 1)) 1 3) f_17 w (ap_cd d (ap_old (L 1))) (ap_cs w d st (ap_old (L 1))) tg hi mi (go + 1)) := hD
            refine lv_goto (tgt := 76) hx hb dX1_makeRoom_61 (by decide) ?_
            exact W.vret hx hb hr (fun t ht hW => ⟨⟨(ap_mv L (ap_old (L 1)) 1 3, w, ap_cd d (ap_old (L 1)), ap_cs w d st (ap_old (L 1)), tg, hi, mi, go + 1), rfl, hfin9, f_17, hfx_18, by rw [ht]; exact hP, va_K.moved hW.alike hK, hD⟩, hS.F ht⟩) hS.2.2 dX1_makeRoom_76
          · skip
            replace c_42 : ¬ (tg < ((L 1).length)) := fun h9 => c_42 ((nI_ltI (a := tg) (b := (L 1).length) (by omega) (by omega)).mpr h9)
            refine lv_iload_n hx hb dX1_makeRoom_45 rfl (lv_at hl 0 rfl) ?_
            refine lv_if_eq (tgt := 64) hx hb dX1_makeRoom_46 (by decide) (fun c_46 => ?_) (fun c_46 => ?_)
            · skip
              replace c_46 : 0 = 0 := (nI_eq (a := 0) (b := 0) (by omega) (by omega)).mp c_46
              refine lv_aload_n hx hb dX1_makeRoom_64 rfl (lv_at hl 2 rfl) ?_
              refine lv_aload_n hx hb dX1_makeRoom_65 rfl (lv_at hl 2 rfl) ?_
              refine va_get (D := (dC, dI)) (ci := 1) (v := .ref (q 2)) (C := RX1) (T := TX1) (N := 12) hx hb hts hwX1 hown hK hP 0 rfl rfl 2 (by decide) (hts (.fieldLink RX1 16 "ArcCache" "cameAgain" "LArcCache$AddressList;") (by decide +kernel)) (fun _ h9 => h9) rfl dX1_makeRoom_66 ?_
              refine lv_aload_n hx hb dX1_makeRoom_69 rfl (lv_at hl 2 rfl) ?_
              refine va_get (D := (dC, dI)) (ci := 1) (v := .ref (q 4)) (C := RX1) (T := TX1) (N := 12) hx hb hts hwX1 hown hK hP 0 rfl rfl 4 (by decide) (hts (.fieldLink RX1 22 "ArcCache" "wentAgain" "LArcCache$AddressList;") (by decide +kernel)) (fun _ h9 => h9) rfl dX1_makeRoom_70 ?_
              have hcd9 : ¬ (tg < (L 1).length ∨ ((L 1).length = tg ∧ 0 < tg ∧ ap_wl L x = 4)) := fun h9 => h9.elim c_42 (fun h9 => by first | exact c_13 h9.1 | omega | exact hm_4 ((ap_wl4 hI).mp h9.2.2))
              have emk9 : ap_mk w tg x (L, d, st, go) = ap_og w 2 (L, d, st, go) := ap_mk_2 hcd9
              by_cases hne9 : L 2 = []
              · skip
                have hfin9 : (L, w, d, st, tg, hi, mi, go) = ap_tu w tg hi mi (ap_mk w tg x (L, d, st, go)) := by rw [emk9]; unfold ap_og; rw [if_pos hne9]; rfl
                have hPc := hP.sub (ws' := (cx q ca C L f w d st tg hi mi go)) [0, 1, 2, 3, 4, 5, 6, 7, 8, 9, 10, 11] rfl
                have hDc := hD.sub (ws' := (cx q ca C L f w d st tg hi mi go)) [0, 1, 2, 3, 4, 5, 6, 7, 8, 9, 10, 11] (by decide) rfl
                have hKc := hK.sub (tys' := (kx ca)) [0, 1, 2, 3, 4, 5, 6] rfl
                have hFc := va_free (wc := (cx q ca C L f w d st tg hi mi go)) hD hS hA [0, 1, 2, 3, 4, 5, 6, 7, 8, 9, 10, 11] rfl
                refine va_callv (va_runV (As := [.ref (q 2), .ref (q 4)]) (rest := []) ⟨hx, hb, hml, hown, hts⟩ (c_X_old2e l dC dI q ca C L f w d st tg hi mi go H.size hf hI hz hne9) (cwV 2 hts gX1_makeRoom_X1_oldestGoes rfl rfl rfl (by decide +kernel) ⟨Nat.le_of_ble_eq_true rfl, Nat.le_of_ble_eq_true rfl⟩) ⟨fun a U g mk q => by obtain ⟨q0, q1, qP, qK, qD, qN⟩ := q; exact ⟨q0, q1, qP, va_K.moved (u := U) (U := U.calling g mk a) (Vm.Alike.refl U.vm) qK, qD, va_tabs rfl (rfl : U.vm = (U.calling g mk a).vm) qN⟩, va_recv hKc hPc (ci := 1) (q0 := 0) rfl rfl, fun U hU hW => ⟨rfl, by rw [hU], by rw [hU]; exact hPc, va_K.moved hW.alike hKc, hDc.weaken (fun _ _ _ _ => trivial), va_Nw.warmM hW hN⟩⟩ rfl rfl hl.1 rfl (lv_room (Nat.le_of_ble_eq_true rfl)) dX1_makeRoom_73 ⟨Nat.le_of_ble_eq_true rfl, Nat.le_of_ble_eq_true rfl⟩) hS (fun q _ h => hFc q h) hFc (fun u t H1 locs ht hvm hw hB hz1 hk1 hS => ?_)
                obtain ⟨L1, w1, d1, st1, tg1, hi1, mi1, go1⟩ := u
                obtain ⟨f1, hf1, hP1, hK1, hD1⟩ := hB
                rw [ht] at hP1
                cases hw
                obtain ⟨f_19, ef_19⟩ : ∃ z, z = f1 := ⟨_, rfl⟩
                rw [← ef_19] at hf1 hP1 hD1
                clear ef_19 f1
                have hfx_20 := hf1
                obtain ⟨hP, hD⟩ := va_join (wr := []) (w1 := (cx q ca C L f_19 w d st tg hi mi go)) hP hD [0, 1, 2, 3, 4, 5, 6, 7, 8, 9, 10, 11] [] rfl rfl (by decide) (by decide) hk1 hFc hP1 hD1
                generalize H1 = H at hP hS ⊢
                replace hP : va_P (dC, dI) vwCl (cx q ca C L f_19 w d st tg hi mi go) H := hP
                replace hD : va_D A (cx q ca C L f_19 w d st tg hi mi go) := hD
                exact W.vret hx hb hr (fun t ht hW => ⟨⟨(L, w, d, st, tg, hi, mi, go), rfl, hfin9, f_19, hfx_20, by rw [ht]; exact hP, va_K.moved hW.alike hK, hD⟩, hS.F ht⟩) hS.2.2 dX1_makeRoom_76
              · skip
                have hfin9 : (ap_mv L (ap_old (L 2)) 2 4, w, ap_cd d (ap_old (L 2)), ap_cs w d st (ap_old (L 2)), tg, hi, mi, go + 1) = ap_tu w tg hi mi (ap_mk w tg x (L, d, st, go)) := by rw [emk9]; unfold ap_og; rw [if_neg hne9]; rfl
                have hPc := hP.sub (ws' := (cx q ca C L f w d st tg hi mi go)) [0, 1, 2, 3, 4, 5, 6, 7, 8, 9, 10, 11] rfl
                have hDc := hD.sub (ws' := (cx q ca C L f w d st tg hi mi go)) [0, 1, 2, 3, 4, 5, 6, 7, 8, 9, 10, 11] (by decide) rfl
                have hKc := hK.sub (tys' := (kx ca)) [0, 1, 2, 3, 4, 5, 6] rfl
                have hFc := va_free (wc := (cx q ca C L f w d st tg hi mi go)) hD hS hA [0, 1, 2, 3, 4, 5, 6, 7, 8, 9, 10, 11] rfl
                refine va_callv (va_runV (As := [.ref (q 2), .ref (q 4)]) (rest := []) ⟨hx, hb, hml, hown, hts⟩ (c_X_old2 l dC dI q ca C L f w d st tg hi mi go H.size hf hI hz hne9) (cwV 2 hts gX1_makeRoom_X1_oldestGoes rfl rfl rfl (by decide +kernel) ⟨Nat.le_of_ble_eq_true rfl, Nat.le_of_ble_eq_true rfl⟩) ⟨fun a U g mk q => by obtain ⟨q0, q1, qP, qK, qD, qN⟩ := q; exact ⟨q0, q1, qP, va_K.moved (u := U) (U := U.calling g mk a) (Vm.Alike.refl U.vm) qK, qD, va_tabs rfl (rfl : U.vm = (U.calling g mk a).vm) qN⟩, va_recv hKc hPc (ci := 1) (q0 := 0) rfl rfl, fun U hU hW => ⟨rfl, by rw [hU], by rw [hU]; exact hPc, va_K.moved hW.alike hKc, hDc.weaken (fun _ _ _ _ => trivial), va_Nw.warmM hW hN⟩⟩ rfl rfl hl.1 rfl (lv_room (Nat.le_of_ble_eq_true rfl)) dX1_makeRoom_73 ⟨Nat.le_of_ble_eq_true rfl, Nat.le_of_ble_eq_true rfl⟩) hS (fun q _ h => hFc q h) hFc (fun u t H1 locs ht hvm hw hB hz1 hk1 hS => ?_)
                obtain ⟨L1, w1, d1, st1, tg1, hi1, mi1, go1⟩ := u
                obtain ⟨f1, hf1, hP1, hK1, hD1⟩ := hB
                rw [ht] at hP1
                cases hw
                obtain ⟨f_21, ef_21⟩ : ∃ z, z = f1 := ⟨_, rfl⟩
                rw [← ef_21] at hf1 hP1 hD1
                clear ef_21 f1
                have hfx_22 := hf1
                obtain ⟨hP, hD⟩ := va_join (wr := []) (w1 := (cx q ca C (ap_mv L (ap_old (L 2)) 2 4) f_21 w (ap_cd d (ap_old (L 2))) (ap_cs w d st (ap_old (L 2))) tg hi mi (go + 1))) hP hD [0, 1, 2, 3, 4, 5, 6, 7, 8, 9, 10, 11] [] rfl rfl (by decide) (by decide) hk1 hFc hP1 hD1
                generalize H1 = H at hP hS ⊢
                replace hP : va_P (dC, dI) vwCl (cx q ca C (ap_mv L (ap_old (L 2)) 2 4) f_21 w (ap_cd d (ap_old (L 2))) (ap_cs w d st (ap_old (L 2))) tg hi mi (go + 1)) H := hP
                replace hD : va_D A (cx q ca C (ap_mv L (ap_old (L 2)) 2 4) f_21 w (ap_cd d (ap_old (L 2))) (ap_cs w d st (ap_old (L 2))) tg hi mi (go + 1)) := hD
                exact W.vret hx hb hr (fun t ht hW => ⟨⟨(ap_mv L (ap_old (L 2)) 2 4, w, ap_cd d (ap_old (L 2)), ap_cs w d st (ap_old (L 2)), tg, hi, mi, go + 1), rfl, hfin9, f_21, hfx_22, by rw [ht]; exact hP, va_K.moved hW.alike hK, hD⟩, hS.F ht⟩) hS.2.2 dX1_makeRoom_76
            · skip
              replace c_46 : ¬ (0 = 0) := fun h9 => c_46 ((nI_eq (a := 0) (b := 0) (by omega) (by omega)).mpr h9)
              exact absurd c_46 (by omega)
        · skip
          replace c_28 : ¬ (0 = 0) := fun h9 => c_28 ((nI_eq (a := 0) (b := 0) (by omega) (by omega)).mpr h9)
          exact absurd c_28 (by omega)
