-- THE CLASS, init (laid by wip/gen/xx6.py)
set_option maxHeartbeats 4000000 in
set_option maxRecDepth 100000 in
theorem c_X_init_ (l : Launch) (dC : Nat → ClassId) (dI : Nat → Nat → Nat) (q : Nat → Nat) (ca : Nat → ClassId) (C : Nat) (L : Nat → List Int32) (f : Nat → Nat → Int32) (w d st : Nat → Int32) (tg : Nat) (hi mi go : Int32)  (sz : Nat) (hf : fx_ok f L) : Met l yX1_init_ wsX1_init_ ({ frames := 1, cells := 0, slots := 0, locals := 23 }) (va_Pc [.ref (q 0)] (fun U => U.heap.size = sz ∧ va_P (dC, dI) vwCl (cx q ca C L f w d st tg hi mi go) U.heap ∧ va_K (dC, dI) vwCl (kx ca) U ∧ va_D (fun _ => True) (cx q ca C L f w d st tg hi mi go))) (va_Qv (fun (u : ap_U) => u = (fun _ => [], ap_z 64 w, ap_z 64 d, ap_z 64 st, 0, 0, 0, 0)) (at_X dC dI (va_A (cx q ca C L f w d st tg hi mi go) sz) q ca C) (va_A (cx q ca C L f w d st tg hi mi go) sz)) 0 0 (va_A (cx q ca C L f w d st tg hi mi go) sz) := by
  refine Met.ofW (cc := cX1_init_) (maxL := 2) (ret := none) (by decide) rfl ?_
  intro p e s m args below meth c s₁ B hml hv
  obtain ⟨rfl, hsz, hP, hK, hD0⟩ := hv
  have hx := B.exec
  have hb := B.bytes
  have hr := B.returns
  have hts := atoms_spec (ws := wsX1_init_) B.pre
  have hown : s.vm.findClass RX1 = some m.cls := findClass_of_methodNamed B.named
  have hlocks := B.notSynchronized
  have hwX1 : ∀ w ∈ u_ws RX1 TX1 12, w ∈ wsX1_init_ := by decide +kernel
  subst hsz
  have hD := hD0.self (sz := s.heap.size)
  generalize hAe : va_A (cx q ca C L f w d st tg hi mi go) s.heap.size = A at hD ⊢
  have hA : ∀ q : Nat, s.heap.size ≤ q → A q := fun q h => by rw [← hAe]; exact Or.inr h
  have hS0 : ∀ H, s.heap = H → va_S A s.heap H [] := fun H h => by subst h; exact va_S.rf
  have hl := lv_entry ([.ref (q 0)]) (n := 2) (Nat.le_of_ble_eq_true rfl)
  rw [lg_entry_eq]
  generalize (lg_sl ([.ref (q 0)]) ++ List.replicate (2 - (lg_sl ([.ref (q 0)])).length) Slot.unset).toArray = ls at hl ⊢
  have hl : lv_has ls 2 [(0, .ref (q 0))] := hl
  generalize hHe : s.heap = H at hP ⊢
  have hS := hS0 H hHe
  refine lv_aload_n hx hb dX1_init__0 rfl (lv_at hl 0 rfl) ?_
  refine va_get (D := (dC, dI)) (ci := 1) (v := .ref (q 1)) (C := RX1) (T := TX1) (N := 12) hx hb hts hwX1 hown hK hP 0 rfl rfl 1 (by decide) (hts (.fieldLink RX1 10 "ArcCache" "cameOnce" "LArcCache$AddressList;") (by decide +kernel)) (fun _ h9 => h9) rfl dX1_init__1 ?_
  have hPc := hP.sub (ws' := (cal (q 1) (q 5) (ca 1) ((L 1).length) (f 1))) [1, 2] rfl
  have hDc := hD.sub (ws' := (cal (q 1) (q 5) (ca 1) ((L 1).length) (f 1))) [1, 2] (by decide) rfl
  have hKc := hK.sub (tys' := (kal (ca 1))) [0] rfl
  have hFc := va_free (wc := (cal (q 1) (q 5) (ca 1) ((L 1).length) (f 1))) hD hS hA [1, 2] rfl
  refine va_callv (va_runV (As := []) (rest := []) ⟨hx, hb, hml, hown, hts⟩ (c_A_empty l dC dI (q 1) (q 5) (ca 1) (L 1).length (f 1) H.size) (cwV 0 hts gX1_init__X0_empty rfl rfl rfl (by decide +kernel) ⟨Nat.le_of_ble_eq_true rfl, Nat.le_of_ble_eq_true rfl⟩) ⟨fun a U g mk q => by obtain ⟨q0, q1, qP, qK, qD⟩ := q; exact ⟨q0, q1, qP, va_K.moved (u := U) (U := U.calling g mk a) (Vm.Alike.refl U.vm) qK, qD⟩, va_recv hKc hPc (ci := 0) (q0 := 0) rfl rfl, fun U hU hW => ⟨rfl, by rw [hU], by rw [hU]; exact hPc, va_K.moved hW.alike hKc, hDc.weaken (fun _ _ _ _ => trivial)⟩⟩ rfl rfl hl.1 rfl (lv_room (Nat.le_of_ble_eq_true rfl)) dX1_init__4 ⟨Nat.le_of_ble_eq_true rfl, Nat.le_of_ble_eq_true rfl⟩) hS (fun q _ h => hFc q h) hFc (fun u t H1 locs ht hvm hw hB hz1 hk1 hS => ?_)
  obtain ⟨n1, f1⟩ := u
  obtain ⟨hP1, hK1, hD1⟩ := hB
  rw [ht] at hP1
  try dsimp only at hw hP1 hD1
  cases hw
  obtain ⟨hP, hD⟩ := va_join (wr := [(q 0, .inr (1, [.int (nI C), .ref (q 1), .ref (q 2), .ref (q 3), .ref (q 4), .ref (q 9), .ref (q 10), .ref (q 11), .int (nI tg), .int hi, .int mi, .int go])), (q 2, .inr (0, [.ref (q 6), .int (nI ((L 2).length))])), (q 6, .inl (ca 2, 64, .inl (f 2))), (q 3, .inr (0, [.ref (q 7), .int (nI ((L 3).length))])), (q 7, .inl (ca 3, 64, .inl (f 3))), (q 4, .inr (0, [.ref (q 8), .int (nI ((L 4).length))])), (q 8, .inl (ca 4, 64, .inl (f 4))), (q 9, .inl (ca 5, 64, .inl w)), (q 10, .inl (ca 6, 64, .inl d)), (q 11, .inl (ca 7, 64, .inl st))]) (w1 := (cal (q 1) (q 5) (ca 1) 0 (f 1))) hP hD [1, 2] [0, 3, 4, 5, 6, 7, 8, 9, 10, 11] rfl rfl (by decide) (by decide) hk1 hFc hP1 hD1
  generalize H1 = H at hP hS ⊢
  replace hP := hP.sub (ws' := (cx q ca C (va_up L 1 []) f w d st tg hi mi go)) [0, 10, 11, 1, 2, 3, 4, 5, 6, 7, 8, 9] rfl
  replace hD := hD.sub (ws' := (cx q ca C (va_up L 1 []) f w d st tg hi mi go)) [0, 10, 11, 1, 2, 3, 4, 5, 6, 7, 8, 9] (by decide) rfl
  refine lv_aload_n hx hb dX1_init__7 rfl (lv_at hl 0 rfl) ?_
  refine va_get (D := (dC, dI)) (ci := 1) (v := .ref (q 2)) (C := RX1) (T := TX1) (N := 12) hx hb hts hwX1 hown hK hP 0 rfl rfl 2 (by decide) (hts (.fieldLink RX1 16 "ArcCache" "cameAgain" "LArcCache$AddressList;") (by decide +kernel)) (fun _ h9 => h9) rfl dX1_init__8 ?_
  have hPc := hP.sub (ws' := (cal (q 2) (q 6) (ca 2) (((va_up L 1 []) 2).length) (f 2))) [3, 4] rfl
  have hDc := hD.sub (ws' := (cal (q 2) (q 6) (ca 2) (((va_up L 1 []) 2).length) (f 2))) [3, 4] (by decide) rfl
  have hKc := hK.sub (tys' := (kal (ca 2))) [1] rfl
  have hFc := va_free (wc := (cal (q 2) (q 6) (ca 2) (((va_up L 1 []) 2).length) (f 2))) hD hS hA [3, 4] rfl
  refine va_callv (va_runV (As := []) (rest := []) ⟨hx, hb, hml, hown, hts⟩ (c_A_empty l dC dI (q 2) (q 6) (ca 2) ((va_up L 1 []) 2).length (f 2) H.size) (cwV 0 hts gX1_init__X0_empty rfl rfl rfl (by decide +kernel) ⟨Nat.le_of_ble_eq_true rfl, Nat.le_of_ble_eq_true rfl⟩) ⟨fun a U g mk q => by obtain ⟨q0, q1, qP, qK, qD⟩ := q; exact ⟨q0, q1, qP, va_K.moved (u := U) (U := U.calling g mk a) (Vm.Alike.refl U.vm) qK, qD⟩, va_recv hKc hPc (ci := 0) (q0 := 0) rfl rfl, fun U hU hW => ⟨rfl, by rw [hU], by rw [hU]; exact hPc, va_K.moved hW.alike hKc, hDc.weaken (fun _ _ _ _ => trivial)⟩⟩ rfl rfl hl.1 rfl (lv_room (Nat.le_of_ble_eq_true rfl)) dX1_init__11 ⟨Nat.le_of_ble_eq_true rfl, Nat.le_of_ble_eq_true rfl⟩) hS (fun q _ h => hFc q h) hFc (fun u t H1 locs ht hvm hw hB hz1 hk1 hS => ?_)
  obtain ⟨n1, f1⟩ := u
  obtain ⟨hP1, hK1, hD1⟩ := hB
  rw [ht] at hP1
  try dsimp only at hw hP1 hD1
  cases hw
  obtain ⟨hP, hD⟩ := va_join (wr := [(q 0, .inr (1, [.int (nI C), .ref (q 1), .ref (q 2), .ref (q 3), .ref (q 4), .ref (q 9), .ref (q 10), .ref (q 11), .int (nI tg), .int hi, .int mi, .int go])), (q 1, .inr (0, [.ref (q 5), .int (nI (((va_up L 1 []) 1).length))])), (q 5, .inl (ca 1, 64, .inl (f 1))), (q 3, .inr (0, [.ref (q 7), .int (nI (((va_up L 1 []) 3).length))])), (q 7, .inl (ca 3, 64, .inl (f 3))), (q 4, .inr (0, [.ref (q 8), .int (nI (((va_up L 1 []) 4).length))])), (q 8, .inl (ca 4, 64, .inl (f 4))), (q 9, .inl (ca 5, 64, .inl w)), (q 10, .inl (ca 6, 64, .inl d)), (q 11, .inl (ca 7, 64, .inl st))]) (w1 := (cal (q 2) (q 6) (ca 2) 0 (f 2))) hP hD [3, 4] [0, 1, 2, 5, 6, 7, 8, 9, 10, 11] rfl rfl (by decide) (by decide) hk1 hFc hP1 hD1
  generalize H1 = H at hP hS ⊢
  replace hP := hP.sub (ws' := (cx q ca C (va_up (va_up L 1 []) 2 []) f w d st tg hi mi go)) [0, 1, 2, 10, 11, 3, 4, 5, 6, 7, 8, 9] rfl
  replace hD := hD.sub (ws' := (cx q ca C (va_up (va_up L 1 []) 2 []) f w d st tg hi mi go)) [0, 1, 2, 10, 11, 3, 4, 5, 6, 7, 8, 9] (by decide) rfl
  refine lv_aload_n hx hb dX1_init__14 rfl (lv_at hl 0 rfl) ?_
  refine va_get (D := (dC, dI)) (ci := 1) (v := .ref (q 3)) (C := RX1) (T := TX1) (N := 12) hx hb hts hwX1 hown hK hP 0 rfl rfl 3 (by decide) (hts (.fieldLink RX1 19 "ArcCache" "wentOnce" "LArcCache$AddressList;") (by decide +kernel)) (fun _ h9 => h9) rfl dX1_init__15 ?_
  have hPc := hP.sub (ws' := (cal (q 3) (q 7) (ca 3) (((va_up (va_up L 1 []) 2 []) 3).length) (f 3))) [5, 6] rfl
  have hDc := hD.sub (ws' := (cal (q 3) (q 7) (ca 3) (((va_up (va_up L 1 []) 2 []) 3).length) (f 3))) [5, 6] (by decide) rfl
  have hKc := hK.sub (tys' := (kal (ca 3))) [2] rfl
  have hFc := va_free (wc := (cal (q 3) (q 7) (ca 3) (((va_up (va_up L 1 []) 2 []) 3).length) (f 3))) hD hS hA [5, 6] rfl
  refine va_callv (va_runV (As := []) (rest := []) ⟨hx, hb, hml, hown, hts⟩ (c_A_empty l dC dI (q 3) (q 7) (ca 3) ((va_up (va_up L 1 []) 2 []) 3).length (f 3) H.size) (cwV 0 hts gX1_init__X0_empty rfl rfl rfl (by decide +kernel) ⟨Nat.le_of_ble_eq_true rfl, Nat.le_of_ble_eq_true rfl⟩) ⟨fun a U g mk q => by obtain ⟨q0, q1, qP, qK, qD⟩ := q; exact ⟨q0, q1, qP, va_K.moved (u := U) (U := U.calling g mk a) (Vm.Alike.refl U.vm) qK, qD⟩, va_recv hKc hPc (ci := 0) (q0 := 0) rfl rfl, fun U hU hW => ⟨rfl, by rw [hU], by rw [hU]; exact hPc, va_K.moved hW.alike hKc, hDc.weaken (fun _ _ _ _ => trivial)⟩⟩ rfl rfl hl.1 rfl (lv_room (Nat.le_of_ble_eq_true rfl)) dX1_init__18 ⟨Nat.le_of_ble_eq_true rfl, Nat.le_of_ble_eq_true rfl⟩) hS (fun q _ h => hFc q h) hFc (fun u t H1 locs ht hvm hw hB hz1 hk1 hS => ?_)
  obtain ⟨n1, f1⟩ := u
  obtain ⟨hP1, hK1, hD1⟩ := hB
  rw [ht] at hP1
  try dsimp only at hw hP1 hD1
  cases hw
  obtain ⟨hP, hD⟩ := va_join (wr := [(q 0, .inr (1, [.int (nI C), .ref (q 1), .ref (q 2), .ref (q 3), .ref (q 4), .ref (q 9), .ref (q 10), .ref (q 11), .int (nI tg), .int hi, .int mi, .int go])), (q 1, .inr (0, [.ref (q 5), .int (nI (((va_up (va_up L 1 []) 2 []) 1).length))])), (q 5, .inl (ca 1, 64, .inl (f 1))), (q 2, .inr (0, [.ref (q 6), .int (nI (((va_up (va_up L 1 []) 2 []) 2).length))])), (q 6, .inl (ca 2, 64, .inl (f 2))), (q 4, .inr (0, [.ref (q 8), .int (nI (((va_up (va_up L 1 []) 2 []) 4).length))])), (q 8, .inl (ca 4, 64, .inl (f 4))), (q 9, .inl (ca 5, 64, .inl w)), (q 10, .inl (ca 6, 64, .inl d)), (q 11, .inl (ca 7, 64, .inl st))]) (w1 := (cal (q 3) (q 7) (ca 3) 0 (f 3))) hP hD [5, 6] [0, 1, 2, 3, 4, 7, 8, 9, 10, 11] rfl rfl (by decide) (by decide) hk1 hFc hP1 hD1
  generalize H1 = H at hP hS ⊢
  replace hP := hP.sub (ws' := (cx q ca C (va_up (va_up (va_up L 1 []) 2 []) 3 []) f w d st tg hi mi go)) [0, 1, 2, 3, 4, 10, 11, 5, 6, 7, 8, 9] rfl
  replace hD := hD.sub (ws' := (cx q ca C (va_up (va_up (va_up L 1 []) 2 []) 3 []) f w d st tg hi mi go)) [0, 1, 2, 3, 4, 10, 11, 5, 6, 7, 8, 9] (by decide) rfl
  refine lv_aload_n hx hb dX1_init__21 rfl (lv_at hl 0 rfl) ?_
  refine va_get (D := (dC, dI)) (ci := 1) (v := .ref (q 4)) (C := RX1) (T := TX1) (N := 12) hx hb hts hwX1 hown hK hP 0 rfl rfl 4 (by decide) (hts (.fieldLink RX1 22 "ArcCache" "wentAgain" "LArcCache$AddressList;") (by decide +kernel)) (fun _ h9 => h9) rfl dX1_init__22 ?_
  have hPc := hP.sub (ws' := (cal (q 4) (q 8) (ca 4) (((va_up (va_up (va_up L 1 []) 2 []) 3 []) 4).length) (f 4))) [7, 8] rfl
  have hDc := hD.sub (ws' := (cal (q 4) (q 8) (ca 4) (((va_up (va_up (va_up L 1 []) 2 []) 3 []) 4).length) (f 4))) [7, 8] (by decide) rfl
  have hKc := hK.sub (tys' := (kal (ca 4))) [3] rfl
  have hFc := va_free (wc := (cal (q 4) (q 8) (ca 4) (((va_up (va_up (va_up L 1 []) 2 []) 3 []) 4).length) (f 4))) hD hS hA [7, 8] rfl
  refine va_callv (va_runV (As := []) (rest := []) ⟨hx, hb, hml, hown, hts⟩ (c_A_empty l dC dI (q 4) (q 8) (ca 4) ((va_up (va_up (va_up L 1 []) 2 []) 3 []) 4).length (f 4) H.size) (cwV 0 hts gX1_init__X0_empty rfl rfl rfl (by decide +kernel) ⟨Nat.le_of_ble_eq_true rfl, Nat.le_of_ble_eq_true rfl⟩) ⟨fun a U g mk q => by obtain ⟨q0, q1, qP, qK, qD⟩ := q; exact ⟨q0, q1, qP, va_K.moved (u := U) (U := U.calling g mk a) (Vm.Alike.refl U.vm) qK, qD⟩, va_recv hKc hPc (ci := 0) (q0 := 0) rfl rfl, fun U hU hW => ⟨rfl, by rw [hU], by rw [hU]; exact hPc, va_K.moved hW.alike hKc, hDc.weaken (fun _ _ _ _ => trivial)⟩⟩ rfl rfl hl.1 rfl (lv_room (Nat.le_of_ble_eq_true rfl)) dX1_init__25 ⟨Nat.le_of_ble_eq_true rfl, Nat.le_of_ble_eq_true rfl⟩) hS (fun q _ h => hFc q h) hFc (fun u t H1 locs ht hvm hw hB hz1 hk1 hS => ?_)
  obtain ⟨n1, f1⟩ := u
  obtain ⟨hP1, hK1, hD1⟩ := hB
  rw [ht] at hP1
  try dsimp only at hw hP1 hD1
  cases hw
  obtain ⟨hP, hD⟩ := va_join (wr := [(q 0, .inr (1, [.int (nI C), .ref (q 1), .ref (q 2), .ref (q 3), .ref (q 4), .ref (q 9), .ref (q 10), .ref (q 11), .int (nI tg), .int hi, .int mi, .int go])), (q 1, .inr (0, [.ref (q 5), .int (nI (((va_up (va_up (va_up L 1 []) 2 []) 3 []) 1).length))])), (q 5, .inl (ca 1, 64, .inl (f 1))), (q 2, .inr (0, [.ref (q 6), .int (nI (((va_up (va_up (va_up L 1 []) 2 []) 3 []) 2).length))])), (q 6, .inl (ca 2, 64, .inl (f 2))), (q 3, .inr (0, [.ref (q 7), .int (nI (((va_up (va_up (va_up L 1 []) 2 []) 3 []) 3).length))])), (q 7, .inl (ca 3, 64, .inl (f 3))), (q 9, .inl (ca 5, 64, .inl w)), (q 10, .inl (ca 6, 64, .inl d)), (q 11, .inl (ca 7, 64, .inl st))]) (w1 := (cal (q 4) (q 8) (ca 4) 0 (f 4))) hP hD [7, 8] [0, 1, 2, 3, 4, 5, 6, 9, 10, 11] rfl rfl (by decide) (by decide) hk1 hFc hP1 hD1
  generalize H1 = H at hP hS ⊢
  replace hP := hP.sub (ws' := (cx q ca C (va_up (va_up (va_up (va_up L 1 []) 2 []) 3 []) 4 []) f w d st tg hi mi go)) [0, 1, 2, 3, 4, 5, 6, 10, 11, 7, 8, 9] rfl
  replace hD := hD.sub (ws' := (cx q ca C (va_up (va_up (va_up (va_up L 1 []) 2 []) 3 []) 4 []) f w d st tg hi mi go)) [0, 1, 2, 3, 4, 5, 6, 10, 11, 7, 8, 9] (by decide) rfl
  replace hP : va_P (dC, dI) vwCl (cx q ca C (fun _ => []) f w d st tg hi mi go) H := hP
  replace hD : va_D A (cx q ca C (fun _ => []) f w d st tg hi mi go) := hD
  have hfe9 : fx_ok f (fun _ => []) := fun _ _ _ => ar_nil
  refine lv_aload_n hx hb dX1_init__28 rfl (lv_at hl 0 rfl) ?_
  refine va_get (D := (dC, dI)) (ci := 1) (v := .ref (q 9)) (C := RX1) (T := TX1) (N := 12) hx hb hts hwX1 hown hK hP 0 rfl rfl 5 (by decide) (hts (.fieldLink RX1 25 "ArcCache" "pageWords" "[I") (by decide +kernel)) (fun _ h9 => h9) rfl dX1_init__29 ?_
  refine lv_iconst (v := nI 0) hx hb dX1_init__32 (by decide) ?_
  have hPc := hP.sub (ws' := (cfa (q 9) (ca 5) w)) [9] rfl
  have hDc := hD.sub (ws' := (cfa (q 9) (ca 5) w)) [9] (by decide) rfl
  have hKc := hK.sub (tys' := (kal (ca 5))) [4] rfl
  have hFc := va_free (wc := (cfa (q 9) (ca 5) w)) hD hS hA [9] rfl
  refine va_callv (va_runS (As := [.ref (q 9), .int (nI 0)]) (rest := []) ⟨hx, hb, hml, hown, hts⟩ (c_J_fill l dC dI (q 9) (ca 5) w H.size) (va_cwS 2 hts gX1_init__J7_fill_53178 rfl rfl rfl (by decide +kernel) ⟨Nat.le_of_ble_eq_true rfl, Nat.le_of_ble_eq_true rfl⟩) ⟨fun a U g mk q => by obtain ⟨q0, q1, qP, qK, qD⟩ := q; exact ⟨q0, q1, qP, va_K.moved (u := U) (U := U.calling g mk a) (Vm.Alike.refl U.vm) qK, qD⟩, fun U hU hW => ⟨rfl, by rw [hU], by rw [hU]; exact hPc, va_K.moved hW.alike hKc, hDc.weaken (fun _ _ _ _ => trivial)⟩⟩ rfl rfl hl.1 rfl (lv_room (Nat.le_of_ble_eq_true rfl)) dX1_init__33 ⟨Nat.le_of_ble_eq_true rfl, Nat.le_of_ble_eq_true rfl⟩) hS (fun q _ h => hFc q h) hFc (fun u t H1 locs ht hvm hw hB hz1 hk1 hS => ?_)
  obtain ⟨hP1, hK1, hD1⟩ := hB
  rw [ht] at hP1
  subst hw
  obtain ⟨hP, hD⟩ := va_join (wr := [(q 0, .inr (1, [.int (nI C), .ref (q 1), .ref (q 2), .ref (q 3), .ref (q 4), .ref (q 9), .ref (q 10), .ref (q 11), .int (nI tg), .int hi, .int mi, .int go])), (q 1, .inr (0, [.ref (q 5), .int (nI (((fun _ => []) 1).length))])), (q 5, .inl (ca 1, 64, .inl (f 1))), (q 2, .inr (0, [.ref (q 6), .int (nI (((fun _ => []) 2).length))])), (q 6, .inl (ca 2, 64, .inl (f 2))), (q 3, .inr (0, [.ref (q 7), .int (nI (((fun _ => []) 3).length))])), (q 7, .inl (ca 3, 64, .inl (f 3))), (q 4, .inr (0, [.ref (q 8), .int (nI (((fun _ => []) 4).length))])), (q 8, .inl (ca 4, 64, .inl (f 4))), (q 10, .inl (ca 6, 64, .inl d)), (q 11, .inl (ca 7, 64, .inl st))]) (w1 := (cfa (q 9) (ca 5) (ap_z 64 w))) hP hD [9] [0, 1, 2, 3, 4, 5, 6, 7, 8, 10, 11] rfl rfl (by decide) (by decide) hk1 hFc hP1 hD1
  generalize H1 = H at hP hS ⊢
  replace hP := hP.sub (ws' := (cx q ca C (fun _ => []) f (ap_z 64 w) d st tg hi mi go)) [0, 1, 2, 3, 4, 5, 6, 7, 8, 11, 9, 10] rfl
  replace hD := hD.sub (ws' := (cx q ca C (fun _ => []) f (ap_z 64 w) d st tg hi mi go)) [0, 1, 2, 3, 4, 5, 6, 7, 8, 11, 9, 10] (by decide) rfl
  refine lv_aload_n hx hb dX1_init__36 rfl (lv_at hl 0 rfl) ?_
  refine va_get (D := (dC, dI)) (ci := 1) (v := .ref (q 11)) (C := RX1) (T := TX1) (N := 12) hx hb hts hwX1 hown hK hP 0 rfl rfl 7 (by decide) (hts (.fieldLink RX1 33 "ArcCache" "storeWords" "[I") (by decide +kernel)) (fun _ h9 => h9) rfl dX1_init__37 ?_
  refine lv_iconst (v := nI 0) hx hb dX1_init__40 (by decide) ?_
  have hPc := hP.sub (ws' := (cfa (q 11) (ca 7) st)) [11] rfl
  have hDc := hD.sub (ws' := (cfa (q 11) (ca 7) st)) [11] (by decide) rfl
  have hKc := hK.sub (tys' := (kal (ca 7))) [6] rfl
  have hFc := va_free (wc := (cfa (q 11) (ca 7) st)) hD hS hA [11] rfl
  refine va_callv (va_runS (As := [.ref (q 11), .int (nI 0)]) (rest := []) ⟨hx, hb, hml, hown, hts⟩ (c_J_fill l dC dI (q 11) (ca 7) st H.size) (va_cwS 2 hts gX1_init__J7_fill_53178 rfl rfl rfl (by decide +kernel) ⟨Nat.le_of_ble_eq_true rfl, Nat.le_of_ble_eq_true rfl⟩) ⟨fun a U g mk q => by obtain ⟨q0, q1, qP, qK, qD⟩ := q; exact ⟨q0, q1, qP, va_K.moved (u := U) (U := U.calling g mk a) (Vm.Alike.refl U.vm) qK, qD⟩, fun U hU hW => ⟨rfl, by rw [hU], by rw [hU]; exact hPc, va_K.moved hW.alike hKc, hDc.weaken (fun _ _ _ _ => trivial)⟩⟩ rfl rfl hl.1 rfl (lv_room (Nat.le_of_ble_eq_true rfl)) dX1_init__41 ⟨Nat.le_of_ble_eq_true rfl, Nat.le_of_ble_eq_true rfl⟩) hS (fun q _ h => hFc q h) hFc (fun u t H1 locs ht hvm hw hB hz1 hk1 hS => ?_)
  obtain ⟨hP1, hK1, hD1⟩ := hB
  rw [ht] at hP1
  subst hw
  obtain ⟨hP, hD⟩ := va_join (wr := [(q 0, .inr (1, [.int (nI C), .ref (q 1), .ref (q 2), .ref (q 3), .ref (q 4), .ref (q 9), .ref (q 10), .ref (q 11), .int (nI tg), .int hi, .int mi, .int go])), (q 1, .inr (0, [.ref (q 5), .int (nI (((fun _ => []) 1).length))])), (q 5, .inl (ca 1, 64, .inl (f 1))), (q 2, .inr (0, [.ref (q 6), .int (nI (((fun _ => []) 2).length))])), (q 6, .inl (ca 2, 64, .inl (f 2))), (q 3, .inr (0, [.ref (q 7), .int (nI (((fun _ => []) 3).length))])), (q 7, .inl (ca 3, 64, .inl (f 3))), (q 4, .inr (0, [.ref (q 8), .int (nI (((fun _ => []) 4).length))])), (q 8, .inl (ca 4, 64, .inl (f 4))), (q 9, .inl (ca 5, 64, .inl (ap_z 64 w))), (q 10, .inl (ca 6, 64, .inl d))]) (w1 := (cfa (q 11) (ca 7) (ap_z 64 st))) hP hD [11] [0, 1, 2, 3, 4, 5, 6, 7, 8, 9, 10] rfl rfl (by decide) (by decide) hk1 hFc hP1 hD1
  generalize H1 = H at hP hS ⊢
  replace hP := hP.sub (ws' := (cx q ca C (fun _ => []) f (ap_z 64 w) d (ap_z 64 st) tg hi mi go)) [0, 1, 2, 3, 4, 5, 6, 7, 8, 9, 10, 11] rfl
  replace hD := hD.sub (ws' := (cx q ca C (fun _ => []) f (ap_z 64 w) d (ap_z 64 st) tg hi mi go)) [0, 1, 2, 3, 4, 5, 6, 7, 8, 9, 10, 11] (by decide) rfl
  refine lv_iconst (v := nI 0) hx hb dX1_init__44 (by decide) ?_
  refine lv_istore_n (lv' := [(1, .int (nI 0)), (0, .ref (q 0))]) hx hb dX1_init__45 rfl hl (by decide) rfl (fun ls hl => ?_)
  rw [← ap_z_0 (f := d)] at hP hD
  have loop : ∀ (k : Nat) (i : Nat) (ls : Array Slot) (H : Heap) (locs : List Loc), (i ≤ 64) → lv_has ls 2 [(0, .ref (q 0)), (1, .int (nI i))] → va_P (dC, dI) vwCl (cx q ca C (fun _ => []) f (ap_z 64 w) (ap_z i d) (ap_z 64 st) tg hi mi go) H → va_D A (cx q ca C (fun _ => []) f (ap_z 64 w) (ap_z i d) (ap_z 64 st) tg hi mi go) → va_S A s.heap H locs → 65 ≤ i + k → W p l e (headSpec wsX1_init_ ({ frames := 1, cells := 0, slots := 0, locals := 23 })).room s m ([.ref (q 0)] : List Value).toArray below meth c H locs 0 0 (MQ below (va_Qv (fun (u : ap_U) => u = (fun _ => [], ap_z 64 w, ap_z 64 d, ap_z 64 st, 0, 0, 0, 0)) (at_X dC dI A q ca C) A) ([.ref (q 0)] : List Value).toArray s 0 0 A) (F0 m 46 ls []) := by
    intro k
    induction k with
    | zero => intro i ls H locs hi64 hl hP hD hS hk; exact absurd hk (by omega)
    | succ k ih =>
      intro i ls H locs hi64 hl hP hD hS hk
      refine lv_iload_n hx hb dX1_init__46 rfl (lv_at hl 1 rfl) ?_
      refine lv_bipush (v := nI 64) hx hb dX1_init__47 (by decide) ?_
      refine lv_icmp_ge (tgt := 65) hx hb dX1_init__49 (by decide) (fun c_49 => ?_) (fun c_49 => ?_)
      · skip
        replace c_49 : 64 ≤ i := (nI_leI (a := 64) (b := i) (by omega) (by omega)).mp c_49
        have e64 : i = 64 := by omega
        subst e64
        refine lv_aload_n hx hb dX1_init__65 rfl (lv_at hl 0 rfl) ?_
        refine lv_iconst (v := nI 0) hx hb dX1_init__66 (by decide) ?_
        refine va_put (D := (dC, dI)) (ci := 1) (v := .int (nI 0)) (ty := .int) (C := RX1) (T := TX1) (N := 12) hx hb hts hwX1 tyX1 tyX1_ok nmX1 hown hK hP hD hS 0 rfl rfl 8 (by decide) (hts (.fieldLink RX1 55 "ArcCache" "targetCount" "I") (by decide +kernel)) (fun _ h9 => h9) rfl (by decide +kernel) rfl rfl (Nat.le_of_ble_eq_true rfl) dX1_init__67 (fun H locs hP hD hS => ?_)
        replace hP : va_P (dC, dI) vwCl (cx q ca C (fun _ => []) f (ap_z 64 w) (ap_z 64 d) (ap_z 64 st) 0 hi mi go) H := hP
        replace hD : va_D A (cx q ca C (fun _ => []) f (ap_z 64 w) (ap_z 64 d) (ap_z 64 st) 0 hi mi go) := hD
        refine lv_aload_n hx hb dX1_init__70 rfl (lv_at hl 0 rfl) ?_
        refine lv_iconst (v := nI 0) hx hb dX1_init__71 (by decide) ?_
        refine va_put (D := (dC, dI)) (ci := 1) (v := .int (nI 0)) (ty := .int) (C := RX1) (T := TX1) (N := 12) hx hb hts hwX1 tyX1 tyX1_ok nmX1 hown hK hP hD hS 0 rfl rfl 9 (by decide) (hts (.fieldLink RX1 58 "ArcCache" "hitCount" "I") (by decide +kernel)) (fun _ h9 => h9) rfl (by decide +kernel) rfl rfl (Nat.le_of_ble_eq_true rfl) dX1_init__72 (fun H locs hP hD hS => ?_)
        replace hP : va_P (dC, dI) vwCl (cx q ca C (fun _ => []) f (ap_z 64 w) (ap_z 64 d) (ap_z 64 st) 0 (nI 0) mi go) H := hP
        replace hD : va_D A (cx q ca C (fun _ => []) f (ap_z 64 w) (ap_z 64 d) (ap_z 64 st) 0 (nI 0) mi go) := hD
        refine lv_aload_n hx hb dX1_init__75 rfl (lv_at hl 0 rfl) ?_
        refine lv_iconst (v := nI 0) hx hb dX1_init__76 (by decide) ?_
        refine va_put (D := (dC, dI)) (ci := 1) (v := .int (nI 0)) (ty := .int) (C := RX1) (T := TX1) (N := 12) hx hb hts hwX1 tyX1 tyX1_ok nmX1 hown hK hP hD hS 0 rfl rfl 10 (by decide) (hts (.fieldLink RX1 61 "ArcCache" "missCount" "I") (by decide +kernel)) (fun _ h9 => h9) rfl (by decide +kernel) rfl rfl (Nat.le_of_ble_eq_true rfl) dX1_init__77 (fun H locs hP hD hS => ?_)
        replace hP : va_P (dC, dI) vwCl (cx q ca C (fun _ => []) f (ap_z 64 w) (ap_z 64 d) (ap_z 64 st) 0 (nI 0) (nI 0) go) H := hP
        replace hD : va_D A (cx q ca C (fun _ => []) f (ap_z 64 w) (ap_z 64 d) (ap_z 64 st) 0 (nI 0) (nI 0) go) := hD
        refine lv_aload_n hx hb dX1_init__80 rfl (lv_at hl 0 rfl) ?_
        refine lv_iconst (v := nI 0) hx hb dX1_init__81 (by decide) ?_
        refine va_put (D := (dC, dI)) (ci := 1) (v := .int (nI 0)) (ty := .int) (C := RX1) (T := TX1) (N := 12) hx hb hts hwX1 tyX1 tyX1_ok nmX1 hown hK hP hD hS 0 rfl rfl 11 (by decide) (hts (.fieldLink RX1 64 "ArcCache" "goneCount" "I") (by decide +kernel)) (fun _ h9 => h9) rfl (by decide +kernel) rfl rfl (Nat.le_of_ble_eq_true rfl) dX1_init__82 (fun H locs hP hD hS => ?_)
        replace hP : va_P (dC, dI) vwCl (cx q ca C (fun _ => []) f (ap_z 64 w) (ap_z 64 d) (ap_z 64 st) 0 (nI 0) (nI 0) (nI 0)) H := hP
        replace hD : va_D A (cx q ca C (fun _ => []) f (ap_z 64 w) (ap_z 64 d) (ap_z 64 st) 0 (nI 0) (nI 0) (nI 0)) := hD
        exact W.vret hx hb hr (fun t ht hW => ⟨⟨(fun _ => [], ap_z 64 w, ap_z 64 d, ap_z 64 st, 0, 0, 0, 0), rfl, rfl, f, hfe9, by rw [ht]; exact hP, va_K.moved hW.alike hK, hD⟩, hS.F ht⟩) hS.2.2 dX1_init__85
      · skip
        replace c_49 : ¬ (64 ≤ i) := fun h9 => c_49 ((nI_leI (a := 64) (b := i) (by omega) (by omega)).mpr h9)
        refine lv_aload_n hx hb dX1_init__52 rfl (lv_at hl 0 rfl) ?_
        refine va_get (D := (dC, dI)) (ci := 1) (v := .ref (q 10)) (C := RX1) (T := TX1) (N := 12) hx hb hts hwX1 hown hK hP 0 rfl rfl 6 (by decide) (hts (.fieldLink RX1 29 "ArcCache" "dirtyPages" "[Z") (by decide +kernel)) (fun _ h9 => h9) rfl dX1_init__53 ?_
        refine lv_iload_n hx hb dX1_init__56 rfl (lv_at hl 1 rfl) ?_
        refine lv_iconst (v := nI 0) hx hb dX1_init__57 (by decide) ?_
        refine va_zast hx hb hK hP hD hS 10 5 rfl rfl (vp_in_nI (show i < 64 by omega) (by decide)) dX1_init__58 (fun H locs hP hD hS => ?_)
        rw [ap_nar0, nI_clamp (show i < 2 ^ 31 by omega)] at hP hD
        replace hP : va_P (dC, dI) vwCl (cx q ca C (fun _ => []) f (ap_z 64 w) (upd (ap_z i d) i 0) (ap_z 64 st) tg hi mi go) H := hP
        replace hD : va_D A (cx q ca C (fun _ => []) f (ap_z 64 w) (upd (ap_z i d) i 0) (ap_z 64 st) tg hi mi go) := hD
        refine lv_iinc (v := nI (i + 1)) (lv' := [(1, .int (nI (i + 1))), (0, .ref (q 0))]) hx hb dX1_init__59 hl (k := 1) rfl (nI_add _ _) (by decide) rfl (fun ls hl => ?_)
        refine lv_goto (tgt := 46) hx hb dX1_init__62 (by decide) ?_
        replace hP : va_P (dC, dI) vwCl (cx q ca C (fun _ => []) f (ap_z 64 w) (ap_z (i + 1) d) (ap_z 64 st) tg hi mi go) H := by rw [← ap_z_s (f := d) (i := i)]; exact hP
        replace hD : va_D A (cx q ca C (fun _ => []) f (ap_z 64 w) (ap_z (i + 1) d) (ap_z 64 st) tg hi mi go) := by rw [← ap_z_s (f := d) (i := i)]; exact hD
        exact ih (i + 1) _ _ _ (by omega) (lv_sub hl [1, 0] rfl) hP hD hS (by omega)
  exact loop 65 0 ls H _ (Nat.zero_le _) (lv_sub hl [1, 0] rfl) hP hD hS (by omega)
