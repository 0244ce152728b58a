-- THE CLASS, third part (laid by wip/gen/xx3.py)
theorem ap_tot_dr {L : Nat → List Int32} (hz : ap_tot L ≤ 48) (k : Nat) : ap_tot (ap_dr L k) ≤ 48 := by
  have key : ∀ i, (ap_dr L k i).length ≤ (L i).length := fun i => by
    unfold ap_dr
    by_cases e : i = k
    · subst e
      rw [va_up_self]
      exact ap_rm_le
    · rw [va_up_ne _ _ e]
      exact Nat.le_refl _
  have k1 := key 1
  have k2 := key 2
  have k3 := key 3
  have k4 := key 4
  unfold ap_tot at hz ⊢
  omega
theorem ap_un_A {w : Nat → Int32} {C t : Nat} {a : Int32} {S : ap_T} (h1 : (S.1 1).length + (S.1 3).length = C) (h2 : (S.1 1).length = C) : ap_un w C t a S = (ap_dr S.1 1, ap_cd S.2.1 (ap_old (S.1 1)), ap_cs w S.2.1 S.2.2.1 (ap_old (S.1 1)), S.2.2.2 + 1) := by
  unfold ap_un
  rw [if_pos h1, if_pos h2]
theorem ap_un_B {w : Nat → Int32} {C t : Nat} {a : Int32} {S : ap_T} (h1 : (S.1 1).length + (S.1 3).length = C) (h2 : ¬ (S.1 1).length = C) : ap_un w C t a S = ap_mk w t a (ap_dr S.1 3, S.2) := by
  unfold ap_un
  rw [if_pos h1, if_neg h2]
theorem ap_un_C {w : Nat → Int32} {C t : Nat} {a : Int32} {S : ap_T} (h1 : ¬ (S.1 1).length + (S.1 3).length = C) (h2 : C ≤ ap_tot S.1) (h3 : ap_tot S.1 = 2 * C) : ap_un w C t a S = ap_mk w t a (ap_dr S.1 4, S.2) := by
  unfold ap_un
  rw [if_neg h1, if_pos h2, if_pos h3]
theorem ap_un_D {w : Nat → Int32} {C t : Nat} {a : Int32} {S : ap_T} (h1 : ¬ (S.1 1).length + (S.1 3).length = C) (h2 : C ≤ ap_tot S.1) (h3 : ¬ ap_tot S.1 = 2 * C) : ap_un w C t a S = ap_mk w t a S := by
  unfold ap_un
  rw [if_neg h1, if_pos h2, if_neg h3]
theorem ap_un_E {w : Nat → Int32} {C t : Nat} {a : Int32} {S : ap_T} (h1 : ¬ (S.1 1).length + (S.1 3).length = C) (h2 : ¬ C ≤ ap_tot S.1) : ap_un w C t a S = S := by
  unfold ap_un
  rw [if_neg h1, if_neg h2]
set_option maxHeartbeats 4000000 in
set_option maxRecDepth 100000 in
theorem c_X_tgt3 (l : Launch) (dC : Nat → ClassId) (dI : Nat → Nat → Nat) (q : Nat → Nat) (ca : Nat → ClassId) (C : Nat) (L : Nat → List Int32) (f : Nat → Nat → Int32) (w d st : Nat → Int32) (tg : Nat) (hi mi go : Int32)  (sz : Nat) (hf : fx_ok f L) (hI : ap_inv L) (hz : ap_tot L ≤ 48) (htg : tg ≤ C) (hC : C ≤ 24) : Met l yX1_moveTarget wsX1_moveTarget ({ frames := 2, cells := 0, slots := 0, locals := 61 }) (va_Pc [.ref (q 0), .int (nI 3)] (fun U => U.heap.size = sz ∧ va_P (dC, dI) vwCl (cx q ca C L f w d st tg hi mi go) U.heap ∧ va_K (dC, dI) vwCl (kx ca) U ∧ va_D (fun _ => True) (cx q ca C L f w d st tg hi mi go))) (va_Qv (fun (u : ap_U) => u = (L, w, d, st, ap_tg L C tg 3, hi, mi, go)) (at_X dC dI (va_A (cx q ca C L f w d st tg hi mi go) sz) q ca C) (va_A (cx q ca C L f w d st tg hi mi go) sz)) 0 0 (va_A (cx q ca C L f w d st tg hi mi go) sz) := by
  refine Met.ofW (cc := cX1_moveTarget) (maxL := 3) (ret := none) (by decide) rfl ?_
  intro p e s m args below meth c s₁ B hml hv
  obtain ⟨rfl, hsz, hP, hK, hD0⟩ := hv
  have hx := B.exec
  have hb := B.bytes
  have hr := B.returns
  have hts := atoms_spec (ws := wsX1_moveTarget) B.pre
  have hown : s.vm.findClass RX1 = some m.cls := findClass_of_methodNamed B.named
  have hlocks := B.notSynchronized
  have hwX1 : ∀ w ∈ u_ws RX1 TX1 12, w ∈ wsX1_moveTarget := by decide +kernel
  subst hsz
  have hD := hD0.self (sz := s.heap.size)
  generalize hAe : va_A (cx q ca C L f w d st tg hi mi go) s.heap.size = A at hD ⊢
  have hA : ∀ q : Nat, s.heap.size ≤ q → A q := fun q h => by rw [← hAe]; exact Or.inr h
  have hS0 : ∀ H, s.heap = H → va_S A s.heap H [] := fun H h => by subst h; exact va_S.rf
  have hl := lv_entry ([.ref (q 0), .int (nI 3)]) (n := 3) (Nat.le_of_ble_eq_true rfl)
  rw [lg_entry_eq]
  generalize (lg_sl ([.ref (q 0), .int (nI 3)]) ++ List.replicate (3 - (lg_sl ([.ref (q 0), .int (nI 3)])).length) Slot.unset).toArray = ls at hl ⊢
  have hl : lv_has ls 3 [(0, .ref (q 0)), (1, .int (nI 3))] := hl
  generalize hHe : s.heap = H at hP ⊢
  have hS := hS0 H hHe
  have z1 : (L 1).length ≤ 48 := by unfold ap_tot at hz; omega
  have z2 : (L 2).length ≤ 48 := by unfold ap_tot at hz; omega
  have z3 : (L 3).length ≤ 48 := by unfold ap_tot at hz; omega
  have z4 : (L 4).length ≤ 48 := by unfold ap_tot at hz; omega
  have hdv9 := @ap_divle (L 4).length (L 3).length
  refine lv_iload_n hx hb dX1_moveTarget_0 rfl (lv_at hl 1 rfl) ?_
  refine lv_iconst (v := nI 3) hx hb dX1_moveTarget_1 (by decide) ?_
  refine lv_icmp_ne (tgt := 43) hx hb dX1_moveTarget_2 (by decide) (fun c_2 => ?_) (fun c_2 => ?_)
  · skip
    replace c_2 : ¬ (3 = 3) := fun h9 => c_2 ((nI_eq (a := 3) (b := 3) (by omega) (by omega)).mpr h9)
    exact absurd c_2 (by omega)
  · skip
    replace c_2 : 3 = 3 := (nI_eq (a := 3) (b := 3) (by omega) (by omega)).mp c_2
    refine lv_aload_n hx hb dX1_moveTarget_5 rfl (lv_at hl 0 rfl) ?_
    refine va_get (D := (dC, dI)) (ci := 1) (v := .ref (q 4)) (C := RX1) (T := TX1) (N := 12) hx hb hts hwX1 hown hK hP 0 rfl rfl 4 (by decide) (hts (.fieldLink RX1 22 "ArcCache" "wentAgain" "LArcCache$AddressList;") (by decide +kernel)) (fun _ h9 => h9) rfl dX1_moveTarget_6 ?_
    have hPc := hP.sub (ws' := (cal (q 4) (q 8) (ca 4) ((L 4).length) (f 4))) [7, 8] rfl
    have hDc := hD.sub (ws' := (cal (q 4) (q 8) (ca 4) ((L 4).length) (f 4))) [7, 8] (by decide) rfl
    have hKc := hK.sub (tys' := (kal (ca 4))) [3] rfl
    have hFc := va_free (wc := (cal (q 4) (q 8) (ca 4) ((L 4).length) (f 4))) hD hS hA [7, 8] rfl
    refine va_calli (va_runV (As := []) (rest := []) ⟨hx, hb, hml, hown, hts⟩ (c_A_size l dC dI (q 4) (q 8) (ca 4) (L 4).length (f 4) H.size) (cwV 0 hts gX1_moveTarget_X0_size rfl rfl rfl (by decide +kernel) ⟨Nat.le_of_ble_eq_true rfl, Nat.le_of_ble_eq_true rfl⟩) ⟨fun a U g mk q => by obtain ⟨q0, q1, qP, qK, qD⟩ := q; exact ⟨q0, q1, qP, va_K.moved (u := U) (U := U.calling g mk a) (Vm.Alike.refl U.vm) qK, qD⟩, va_recv hKc hPc (ci := 0) (q0 := 0) rfl rfl, fun U hU hW => ⟨rfl, by rw [hU], by rw [hU]; exact hPc, va_K.moved hW.alike hKc, hDc.weaken (fun _ _ _ _ => trivial)⟩⟩ rfl rfl hl.1 rfl (lv_room (Nat.le_of_ble_eq_true rfl)) dX1_moveTarget_9 ⟨Nat.le_of_ble_eq_true rfl, Nat.le_of_ble_eq_true rfl⟩) hS (fun q _ h => hFc q h) hFc (fun r u t H1 locs ht hvm hw hB hz1 hk1 hS => ?_)
    obtain ⟨n1, f1⟩ := u
    obtain ⟨hP1, hK1, hD1⟩ := hB
    rw [ht] at hP1
    try dsimp only at hw hP1 hD1
    obtain ⟨hr9, hu⟩ := hw
    cases hu
    obtain ⟨hP, hD⟩ := va_join (wr := [(q 0, .inr (1, [.int (nI C), .ref (q 1), .ref (q 2), .ref (q 3), .ref (q 4), .ref (q 9), .ref (q 10), .ref (q 11), .int (nI tg), .int hi, .int mi, .int go])), (q 1, .inr (0, [.ref (q 5), .int (nI ((L 1).length))])), (q 5, .inl (ca 1, 64, .inl (f 1))), (q 2, .inr (0, [.ref (q 6), .int (nI ((L 2).length))])), (q 6, .inl (ca 2, 64, .inl (f 2))), (q 3, .inr (0, [.ref (q 7), .int (nI ((L 3).length))])), (q 7, .inl (ca 3, 64, .inl (f 3))), (q 9, .inl (ca 5, 64, .inl w)), (q 10, .inl (ca 6, 64, .inl d)), (q 11, .inl (ca 7, 64, .inl st))]) (w1 := (cal (q 4) (q 8) (ca 4) ((L 4).length) (f 4))) hP hD [7, 8] [0, 1, 2, 3, 4, 5, 6, 9, 10, 11] rfl rfl (by decide) (by decide) hk1 hFc hP1 hD1
    generalize H1 = H at hP hS ⊢
    replace hP := hP.sub (ws' := (cx q ca C L f w d st tg hi mi go)) [0, 1, 2, 3, 4, 5, 6, 10, 11, 7, 8, 9] rfl
    replace hD := hD.sub (ws' := (cx q ca C L f w d st tg hi mi go)) [0, 1, 2, 3, 4, 5, 6, 10, 11, 7, 8, 9] (by decide) rfl
    subst hr9
    refine lv_aload_n hx hb dX1_moveTarget_12 rfl (lv_at hl 0 rfl) ?_
    refine va_get (D := (dC, dI)) (ci := 1) (v := .ref (q 3)) (C := RX1) (T := TX1) (N := 12) hx hb hts hwX1 hown hK hP 0 rfl rfl 3 (by decide) (hts (.fieldLink RX1 19 "ArcCache" "wentOnce" "LArcCache$AddressList;") (by decide +kernel)) (fun _ h9 => h9) rfl dX1_moveTarget_13 ?_
    have hPc := hP.sub (ws' := (cal (q 3) (q 7) (ca 3) ((L 3).length) (f 3))) [5, 6] rfl
    have hDc := hD.sub (ws' := (cal (q 3) (q 7) (ca 3) ((L 3).length) (f 3))) [5, 6] (by decide) rfl
    have hKc := hK.sub (tys' := (kal (ca 3))) [2] rfl
    have hFc := va_free (wc := (cal (q 3) (q 7) (ca 3) ((L 3).length) (f 3))) hD hS hA [5, 6] rfl
    refine va_calli (va_runV (As := []) (rest := [.int (nI ((L 4).length))]) ⟨hx, hb, hml, hown, hts⟩ (c_A_size l dC dI (q 3) (q 7) (ca 3) (L 3).length (f 3) H.size) (cwV 0 hts gX1_moveTarget_X0_size rfl rfl rfl (by decide +kernel) ⟨Nat.le_of_ble_eq_true rfl, Nat.le_of_ble_eq_true rfl⟩) ⟨fun a U g mk q => by obtain ⟨q0, q1, qP, qK, qD⟩ := q; exact ⟨q0, q1, qP, va_K.moved (u := U) (U := U.calling g mk a) (Vm.Alike.refl U.vm) qK, qD⟩, va_recv hKc hPc (ci := 0) (q0 := 0) rfl rfl, fun U hU hW => ⟨rfl, by rw [hU], by rw [hU]; exact hPc, va_K.moved hW.alike hKc, hDc.weaken (fun _ _ _ _ => trivial)⟩⟩ rfl rfl hl.1 rfl (lv_room (Nat.le_of_ble_eq_true rfl)) dX1_moveTarget_16 ⟨Nat.le_of_ble_eq_true rfl, Nat.le_of_ble_eq_true rfl⟩) hS (fun q _ h => hFc q h) hFc (fun r u t H1 locs ht hvm hw hB hz1 hk1 hS => ?_)
    obtain ⟨n1, f1⟩ := u
    obtain ⟨hP1, hK1, hD1⟩ := hB
    rw [ht] at hP1
    try dsimp only at hw hP1 hD1
    obtain ⟨hr9, hu⟩ := hw
    cases hu
    obtain ⟨hP, hD⟩ := va_join (wr := [(q 0, .inr (1, [.int (nI C), .ref (q 1), .ref (q 2), .ref (q 3), .ref (q 4), .ref (q 9), .ref (q 10), .ref (q 11), .int (nI tg), .int hi, .int mi, .int go])), (q 1, .inr (0, [.ref (q 5), .int (nI ((L 1).length))])), (q 5, .inl (ca 1, 64, .inl (f 1))), (q 2, .inr (0, [.ref (q 6), .int (nI ((L 2).length))])), (q 6, .inl (ca 2, 64, .inl (f 2))), (q 4, .inr (0, [.ref (q 8), .int (nI ((L 4).length))])), (q 8, .inl (ca 4, 64, .inl (f 4))), (q 9, .inl (ca 5, 64, .inl w)), (q 10, .inl (ca 6, 64, .inl d)), (q 11, .inl (ca 7, 64, .inl st))]) (w1 := (cal (q 3) (q 7) (ca 3) ((L 3).length) (f 3))) hP hD [5, 6] [0, 1, 2, 3, 4, 7, 8, 9, 10, 11] rfl rfl (by decide) (by decide) hk1 hFc hP1 hD1
    generalize H1 = H at hP hS ⊢
    replace hP := hP.sub (ws' := (cx q ca C L f w d st tg hi mi go)) [0, 1, 2, 3, 4, 10, 11, 5, 6, 7, 8, 9] rfl
    replace hD := hD.sub (ws' := (cx q ca C L f w d st tg hi mi go)) [0, 1, 2, 3, 4, 10, 11, 5, 6, 7, 8, 9] (by decide) rfl
    subst hr9
    have hPc := hP.sub (ws' := []) [] rfl
    have hDc := hD.sub (ws' := []) [] (by decide) rfl
    have hFc := va_free (wc := []) hD hS hA [] rfl
    refine va_calli (va_runS (As := [.int (nI ((L 4).length)), .int (nI ((L 3).length))]) (rest := []) ⟨hx, hb, hml, hown, hts⟩ (c_X_stepOf l dC dI (L 4).length (L 3).length H.size (by omega) (by omega)) (va_cwS 2 hts gX1_moveTarget_X1_stepOf rfl rfl rfl (by decide +kernel) ⟨Nat.le_of_ble_eq_true rfl, Nat.le_of_ble_eq_true rfl⟩) ⟨fun a U g mk q => by obtain ⟨q0, q1⟩ := q; exact ⟨q0, q1⟩, fun U hU hW => ⟨rfl, by show U.heap.size = _; rw [hU]⟩⟩ rfl rfl hl.1 rfl (lv_room (Nat.le_of_ble_eq_true rfl)) dX1_moveTarget_19 ⟨Nat.le_of_ble_eq_true rfl, Nat.le_of_ble_eq_true rfl⟩) hS (fun q _ h => hFc q h) hFc (fun r u t H1 locs ht hvm hw hB hz1 hk1 hS => ?_)
    obtain ⟨hP, hD⟩ := va_join (wr := (cx q ca C L f w d st tg hi mi go)) (w1 := []) hP hD [] [0, 1, 2, 3, 4, 5, 6, 7, 8, 9, 10, 11] rfl rfl (by decide) (by decide) hk1 hFc (fun k q h => by simp at h) ⟨fun i j p q h => by simp at h, fun k q h => by simp at h⟩
    generalize H1 = H at hP hS ⊢
    replace hP : va_P (dC, dI) vwCl (cx q ca C L f w d st tg hi mi go) H := hP
    replace hD : va_D A (cx q ca C L f w d st tg hi mi go) := hD
    subst hw
    refine lv_istore_n (lv' := [(2, .int (nI (max 1 ((L 4).length / (L 3).length)))), (0, .ref (q 0)), (1, .int (nI 3))]) hx hb dX1_moveTarget_22 rfl hl (by decide) rfl (fun ls hl => ?_)
    refine lv_aload_n hx hb dX1_moveTarget_23 rfl (lv_at hl 1 rfl) ?_
    refine lv_aload_n hx hb dX1_moveTarget_24 rfl (lv_at hl 1 rfl) ?_
    refine va_get (D := (dC, dI)) (ci := 1) (v := .int (nI C)) (C := RX1) (T := TX1) (N := 12) hx hb hts hwX1 hown hK hP 0 rfl rfl 0 (by decide) (hts (.fieldLink RX1 42 "ArcCache" "pages" "I") (by decide +kernel)) (fun _ h9 => h9) rfl dX1_moveTarget_25 ?_
    refine lv_aload_n hx hb dX1_moveTarget_28 rfl (lv_at hl 1 rfl) ?_
    refine va_get (D := (dC, dI)) (ci := 1) (v := .int (nI tg)) (C := RX1) (T := TX1) (N := 12) hx hb hts hwX1 hown hK hP 0 rfl rfl 8 (by decide) (hts (.fieldLink RX1 55 "ArcCache" "targetCount" "I") (by decide +kernel)) (fun _ h9 => h9) rfl dX1_moveTarget_29 ?_
    refine lv_iload_n hx hb dX1_moveTarget_32 rfl (lv_at hl 0 rfl) ?_
    refine lv_iadd hx hb dX1_moveTarget_33 ?_
    refine lv_topi (fun x_1 e_x_1 => ?_)
    have e_x_1 : x_1 = nI (tg + (max 1 ((L 4).length / (L 3).length))) := by rw [e_x_1]; exact nI_add _ _
    subst e_x_1
    refine va_mmin hx hb (hml.trans hl.1.symm) hown (hts (.methodLink RX1 124 Lib.Math.min.name) (by decide +kernel)) (hts (.static Lib.Math.min.name) (by decide +kernel)) (hts (.initialized "java/lang/Math") (by decide +kernel)) (hts (.code Lib.Math.min.name Lib.Math.min.code 2 (some .int)) (by decide +kernel)) (Nat.le_of_ble_eq_true rfl) (Nat.le_of_ble_eq_true rfl) (Nat.zero_le _) (Nat.zero_le _) dX1_moveTarget_34 ?_
    refine lv_topi (fun x_2 e_x_2 => ?_)
    have e_x_2 : x_2 = nI (ap_tg L C tg 3) := by rw [e_x_2]; exact ap_minN (by omega) (by omega)
    subst e_x_2
    refine va_put (D := (dC, dI)) (ci := 1) (v := .int (nI (ap_tg L C tg 3))) (ty := .int) (C := RX1) (T := TX1) (N := 12) hx hb hts hwX1 tyX1 tyX1_ok nmX1 hown hK hP hD hS 0 rfl rfl 8 (by decide) (hts (.fieldLink RX1 55 "ArcCache" "targetCount" "I") (by decide +kernel)) (fun _ h9 => h9) rfl (by decide +kernel) rfl rfl (Nat.le_of_ble_eq_true rfl) dX1_moveTarget_37 (fun H locs hP hD hS => ?_)
    replace hP : va_P (dC, dI) vwCl (cx q ca C L f w d st (ap_tg L C tg 3) hi mi go) H := hP
    replace hD : va_D A (cx q ca C L f w d st (ap_tg L C tg 3) hi mi go) := hD
    refine lv_goto (tgt := 75) hx hb dX1_moveTarget_40 (by decide) ?_
    exact W.vret hx hb hr (fun t ht hW => ⟨⟨(L, w, d, st, ap_tg L C tg 3, hi, mi, go), rfl, rfl, f, hf, by rw [ht]; exact hP, va_K.moved hW.alike hK, hD⟩, hS.F ht⟩) hS.2.2 dX1_moveTarget_75
set_option maxHeartbeats 4000000 in
set_option maxRecDepth 100000 in
theorem c_X_tgt4 (l : Launch) (dC : Nat → ClassId) (dI : Nat → Nat → Nat) (q : Nat → Nat) (ca : Nat → ClassId) (C : Nat) (L : Nat → List Int32) (f : Nat → Nat → Int32) (w d st : Nat → Int32) (tg : Nat) (hi mi go : Int32)  (sz : Nat) (hf : fx_ok f L) (hI : ap_inv L) (hz : ap_tot L ≤ 48) (htg : tg ≤ C) (hC : C ≤ 24) : Met l yX1_moveTarget wsX1_moveTarget ({ frames := 2, cells := 0, slots := 0, locals := 61 }) (va_Pc [.ref (q 0), .int (nI 4)] (fun U => U.heap.size = sz ∧ va_P (dC, dI) vwCl (cx q ca C L f w d st tg hi mi go) U.heap ∧ va_K (dC, dI) vwCl (kx ca) U ∧ va_D (fun _ => True) (cx q ca C L f w d st tg hi mi go))) (va_Qv (fun (u : ap_U) => u = (L, w, d, st, ap_tg L C tg 4, hi, mi, go)) (at_X dC dI (va_A (cx q ca C L f w d st tg hi mi go) sz) q ca C) (va_A (cx q ca C L f w d st tg hi mi go) sz)) 0 0 (va_A (cx q ca C L f w d st tg hi mi go) sz) := by
  refine Met.ofW (cc := cX1_moveTarget) (maxL := 3) (ret := none) (by decide) rfl ?_
  intro p e s m args below meth c s₁ B hml hv
  obtain ⟨rfl, hsz, hP, hK, hD0⟩ := hv
  have hx := B.exec
  have hb := B.bytes
  have hr := B.returns
  have hts := atoms_spec (ws := wsX1_moveTarget) B.pre
  have hown : s.vm.findClass RX1 = some m.cls := findClass_of_methodNamed B.named
  have hlocks := B.notSynchronized
  have hwX1 : ∀ w ∈ u_ws RX1 TX1 12, w ∈ wsX1_moveTarget := by decide +kernel
  subst hsz
  have hD := hD0.self (sz := s.heap.size)
  generalize hAe : va_A (cx q ca C L f w d st tg hi mi go) s.heap.size = A at hD ⊢
  have hA : ∀ q : Nat, s.heap.size ≤ q → A q := fun q h => by rw [← hAe]; exact Or.inr h
  have hS0 : ∀ H, s.heap = H → va_S A s.heap H [] := fun H h => by subst h; exact va_S.rf
  have hl := lv_entry ([.ref (q 0), .int (nI 4)]) (n := 3) (Nat.le_of_ble_eq_true rfl)
  rw [lg_entry_eq]
  generalize (lg_sl ([.ref (q 0), .int (nI 4)]) ++ List.replicate (3 - (lg_sl ([.ref (q 0), .int (nI 4)])).length) Slot.unset).toArray = ls at hl ⊢
  have hl : lv_has ls 3 [(0, .ref (q 0)), (1, .int (nI 4))] := hl
  generalize hHe : s.heap = H at hP ⊢
  have hS := hS0 H hHe
  have z1 : (L 1).length ≤ 48 := by unfold ap_tot at hz; omega
  have z2 : (L 2).length ≤ 48 := by unfold ap_tot at hz; omega
  have z3 : (L 3).length ≤ 48 := by unfold ap_tot at hz; omega
  have z4 : (L 4).length ≤ 48 := by unfold ap_tot at hz; omega
  have hdv9 := @ap_divle (L 3).length (L 4).length
  refine lv_iload_n hx hb dX1_moveTarget_0 rfl (lv_at hl 1 rfl) ?_
  refine lv_iconst (v := nI 3) hx hb dX1_moveTarget_1 (by decide) ?_
  refine lv_icmp_ne (tgt := 43) hx hb dX1_moveTarget_2 (by decide) (fun c_2 => ?_) (fun c_2 => ?_)
  · skip
    replace c_2 : ¬ (4 = 3) := fun h9 => c_2 ((nI_eq (a := 4) (b := 3) (by omega) (by omega)).mpr h9)
    refine lv_aload_n hx hb dX1_moveTarget_43 rfl (lv_at hl 0 rfl) ?_
    refine va_get (D := (dC, dI)) (ci := 1) (v := .ref (q 3)) (C := RX1) (T := TX1) (N := 12) hx hb hts hwX1 hown hK hP 0 rfl rfl 3 (by decide) (hts (.fieldLink RX1 19 "ArcCache" "wentOnce" "LArcCache$AddressList;") (by decide +kernel)) (fun _ h9 => h9) rfl dX1_moveTarget_44 ?_
    have hPc := hP.sub (ws' := (cal (q 3) (q 7) (ca 3) ((L 3).length) (f 3))) [5, 6] rfl
    have hDc := hD.sub (ws' := (cal (q 3) (q 7) (ca 3) ((L 3).length) (f 3))) [5, 6] (by decide) rfl
    have hKc := hK.sub (tys' := (kal (ca 3))) [2] rfl
    have hFc := va_free (wc := (cal (q 3) (q 7) (ca 3) ((L 3).length) (f 3))) hD hS hA [5, 6] rfl
    refine va_calli (va_runV (As := []) (rest := []) ⟨hx, hb, hml, hown, hts⟩ (c_A_size l dC dI (q 3) (q 7) (ca 3) (L 3).length (f 3) H.size) (cwV 0 hts gX1_moveTarget_X0_size rfl rfl rfl (by decide +kernel) ⟨Nat.le_of_ble_eq_true rfl, Nat.le_of_ble_eq_true rfl⟩) ⟨fun a U g mk q => by obtain ⟨q0, q1, qP, qK, qD⟩ := q; exact ⟨q0, q1, qP, va_K.moved (u := U) (U := U.calling g mk a) (Vm.Alike.refl U.vm) qK, qD⟩, va_recv hKc hPc (ci := 0) (q0 := 0) rfl rfl, fun U hU hW => ⟨rfl, by rw [hU], by rw [hU]; exact hPc, va_K.moved hW.alike hKc, hDc.weaken (fun _ _ _ _ => trivial)⟩⟩ rfl rfl hl.1 rfl (lv_room (Nat.le_of_ble_eq_true rfl)) dX1_moveTarget_47 ⟨Nat.le_of_ble_eq_true rfl, Nat.le_of_ble_eq_true rfl⟩) hS (fun q _ h => hFc q h) hFc (fun r u t H1 locs ht hvm hw hB hz1 hk1 hS => ?_)
    obtain ⟨n1, f1⟩ := u
    obtain ⟨hP1, hK1, hD1⟩ := hB
    rw [ht] at hP1
    try dsimp only at hw hP1 hD1
    obtain ⟨hr9, hu⟩ := hw
    cases hu
    obtain ⟨hP, hD⟩ := va_join (wr := [(q 0, .inr (1, [.int (nI C), .ref (q 1), .ref (q 2), .ref (q 3), .ref (q 4), .ref (q 9), .ref (q 10), .ref (q 11), .int (nI tg), .int hi, .int mi, .int go])), (q 1, .inr (0, [.ref (q 5), .int (nI ((L 1).length))])), (q 5, .inl (ca 1, 64, .inl (f 1))), (q 2, .inr (0, [.ref (q 6), .int (nI ((L 2).length))])), (q 6, .inl (ca 2, 64, .inl (f 2))), (q 4, .inr (0, [.ref (q 8), .int (nI ((L 4).length))])), (q 8, .inl (ca 4, 64, .inl (f 4))), (q 9, .inl (ca 5, 64, .inl w)), (q 10, .inl (ca 6, 64, .inl d)), (q 11, .inl (ca 7, 64, .inl st))]) (w1 := (cal (q 3) (q 7) (ca 3) ((L 3).length) (f 3))) hP hD [5, 6] [0, 1, 2, 3, 4, 7, 8, 9, 10, 11] rfl rfl (by decide) (by decide) hk1 hFc hP1 hD1
    generalize H1 = H at hP hS ⊢
    replace hP := hP.sub (ws' := (cx q ca C L f w d st tg hi mi go)) [0, 1, 2, 3, 4, 10, 11, 5, 6, 7, 8, 9] rfl
    replace hD := hD.sub (ws' := (cx q ca C L f w d st tg hi mi go)) [0, 1, 2, 3, 4, 10, 11, 5, 6, 7, 8, 9] (by decide) rfl
    subst hr9
    refine lv_aload_n hx hb dX1_moveTarget_50 rfl (lv_at hl 0 rfl) ?_
    refine va_get (D := (dC, dI)) (ci := 1) (v := .ref (q 4)) (C := RX1) (T := TX1) (N := 12) hx hb hts hwX1 hown hK hP 0 rfl rfl 4 (by decide) (hts (.fieldLink RX1 22 "ArcCache" "wentAgain" "LArcCache$AddressList;") (by decide +kernel)) (fun _ h9 => h9) rfl dX1_moveTarget_51 ?_
    have hPc := hP.sub (ws' := (cal (q 4) (q 8) (ca 4) ((L 4).length) (f 4))) [7, 8] rfl
    have hDc := hD.sub (ws' := (cal (q 4) (q 8) (ca 4) ((L 4).length) (f 4))) [7, 8] (by decide) rfl
    have hKc := hK.sub (tys' := (kal (ca 4))) [3] rfl
    have hFc := va_free (wc := (cal (q 4) (q 8) (ca 4) ((L 4).length) (f 4))) hD hS hA [7, 8] rfl
    refine va_calli (va_runV (As := []) (rest := [.int (nI ((L 3).length))]) ⟨hx, hb, hml, hown, hts⟩ (c_A_size l dC dI (q 4) (q 8) (ca 4) (L 4).length (f 4) H.size) (cwV 0 hts gX1_moveTarget_X0_size rfl rfl rfl (by decide +kernel) ⟨Nat.le_of_ble_eq_true rfl, Nat.le_of_ble_eq_true rfl⟩) ⟨fun a U g mk q => by obtain ⟨q0, q1, qP, qK, qD⟩ := q; exact ⟨q0, q1, qP, va_K.moved (u := U) (U := U.calling g mk a) (Vm.Alike.refl U.vm) qK, qD⟩, va_recv hKc hPc (ci := 0) (q0 := 0) rfl rfl, fun U hU hW => ⟨rfl, by rw [hU], by rw [hU]; exact hPc, va_K.moved hW.alike hKc, hDc.weaken (fun _ _ _ _ => trivial)⟩⟩ rfl rfl hl.1 rfl (lv_room (Nat.le_of_ble_eq_true rfl)) dX1_moveTarget_54 ⟨Nat.le_of_ble_eq_true rfl, Nat.le_of_ble_eq_true rfl⟩) hS (fun q _ h => hFc q h) hFc (fun r u t H1 locs ht hvm hw hB hz1 hk1 hS => ?_)
    obtain ⟨n1, f1⟩ := u
    obtain ⟨hP1, hK1, hD1⟩ := hB
    rw [ht] at hP1
    try dsimp only at hw hP1 hD1
    obtain ⟨hr9, hu⟩ := hw
    cases hu
    obtain ⟨hP, hD⟩ := va_join (wr := [(q 0, .inr (1, [.int (nI C), .ref (q 1), .ref (q 2), .ref (q 3), .ref (q 4), .ref (q 9), .ref (q 10), .ref (q 11), .int (nI tg), .int hi, .int mi, .int go])), (q 1, .inr (0, [.ref (q 5), .int (nI ((L 1).length))])), (q 5, .inl (ca 1, 64, .inl (f 1))), (q 2, .inr (0, [.ref (q 6), .int (nI ((L 2).length))])), (q 6, .inl (ca 2, 64, .inl (f 2))), (q 3, .inr (0, [.ref (q 7), .int (nI ((L 3).length))])), (q 7, .inl (ca 3, 64, .inl (f 3))), (q 9, .inl (ca 5, 64, .inl w)), (q 10, .inl (ca 6, 64, .inl d)), (q 11, .inl (ca 7, 64, .inl st))]) (w1 := (cal (q 4) (q 8) (ca 4) ((L 4).length) (f 4))) hP hD [7, 8] [0, 1, 2, 3, 4, 5, 6, 9, 10, 11] rfl rfl (by decide) (by decide) hk1 hFc hP1 hD1
    generalize H1 = H at hP hS ⊢
    replace hP := hP.sub (ws' := (cx q ca C L f w d st tg hi mi go)) [0, 1, 2, 3, 4, 5, 6, 10, 11, 7, 8, 9] rfl
    replace hD := hD.sub (ws' := (cx q ca C L f w d st tg hi mi go)) [0, 1, 2, 3, 4, 5, 6, 10, 11, 7, 8, 9] (by decide) rfl
    subst hr9
    have hPc := hP.sub (ws' := []) [] rfl
    have hDc := hD.sub (ws' := []) [] (by decide) rfl
    have hFc := va_free (wc := []) hD hS hA [] rfl
    refine va_calli (va_runS (As := [.int (nI ((L 3).length)), .int (nI ((L 4).length))]) (rest := []) ⟨hx, hb, hml, hown, hts⟩ (c_X_stepOf l dC dI (L 3).length (L 4).length H.size (by omega) (by omega)) (va_cwS 2 hts gX1_moveTarget_X1_stepOf rfl rfl rfl (by decide +kernel) ⟨Nat.le_of_ble_eq_true rfl, Nat.le_of_ble_eq_true rfl⟩) ⟨fun a U g mk q => by obtain ⟨q0, q1⟩ := q; exact ⟨q0, q1⟩, fun U hU hW => ⟨rfl, by show U.heap.size = _; rw [hU]⟩⟩ rfl rfl hl.1 rfl (lv_room (Nat.le_of_ble_eq_true rfl)) dX1_moveTarget_57 ⟨Nat.le_of_ble_eq_true rfl, Nat.le_of_ble_eq_true rfl⟩) hS (fun q _ h => hFc q h) hFc (fun r u t H1 locs ht hvm hw hB hz1 hk1 hS => ?_)
    obtain ⟨hP, hD⟩ := va_join (wr := (cx q ca C L f w d st tg hi mi go)) (w1 := []) hP hD [] [0, 1, 2, 3, 4, 5, 6, 7, 8, 9, 10, 11] rfl rfl (by decide) (by decide) hk1 hFc (fun k q h => by simp at h) ⟨fun i j p q h => by simp at h, fun k q h => by simp at h⟩
    generalize H1 = H at hP hS ⊢
    replace hP : va_P (dC, dI) vwCl (cx q ca C L f w d st tg hi mi go) H := hP
    replace hD : va_D A (cx q ca C L f w d st tg hi mi go) := hD
    subst hw
    refine lv_istore_n (lv' := [(2, .int (nI (max 1 ((L 3).length / (L 4).length)))), (0, .ref (q 0)), (1, .int (nI 4))]) hx hb dX1_moveTarget_60 rfl hl (by decide) rfl (fun ls hl => ?_)
    refine lv_aload_n hx hb dX1_moveTarget_61 rfl (lv_at hl 1 rfl) ?_
    refine lv_iconst (v := nI 0) hx hb dX1_moveTarget_62 (by decide) ?_
    refine lv_aload_n hx hb dX1_moveTarget_63 rfl (lv_at hl 1 rfl) ?_
    refine va_get (D := (dC, dI)) (ci := 1) (v := .int (nI tg)) (C := RX1) (T := TX1) (N := 12) hx hb hts hwX1 hown hK hP 0 rfl rfl 8 (by decide) (hts (.fieldLink RX1 55 "ArcCache" "targetCount" "I") (by decide +kernel)) (fun _ h9 => h9) rfl dX1_moveTarget_64 ?_
    refine lv_iload_n hx hb dX1_moveTarget_67 rfl (lv_at hl 0 rfl) ?_
    refine lv_isub hx hb dX1_moveTarget_68 ?_
    refine va_mmax hx hb (hml.trans hl.1.symm) hown (hts (.methodLink RX1 127 Lib.Math.max.name) (by decide +kernel)) (hts (.static Lib.Math.max.name) (by decide +kernel)) (hts (.initialized "java/lang/Math") (by decide +kernel)) (hts (.code Lib.Math.max.name Lib.Math.max.code 2 (some .int)) (by decide +kernel)) (Nat.le_of_ble_eq_true rfl) (Nat.le_of_ble_eq_true rfl) (Nat.zero_le _) (Nat.zero_le _) dX1_moveTarget_69 ?_
    refine lv_topi (fun x_1 e_x_1 => ?_)
    have e_x_1 : x_1 = nI (ap_tg L C tg 4) := by rw [e_x_1]; exact ap_max0 (by omega) (by omega)
    subst e_x_1
    refine va_put (D := (dC, dI)) (ci := 1) (v := .int (nI (ap_tg L C tg 4))) (ty := .int) (C := RX1) (T := TX1) (N := 12) hx hb hts hwX1 tyX1 tyX1_ok nmX1 hown hK hP hD hS 0 rfl rfl 8 (by decide) (hts (.fieldLink RX1 55 "ArcCache" "targetCount" "I") (by decide +kernel)) (fun _ h9 => h9) rfl (by decide +kernel) rfl rfl (Nat.le_of_ble_eq_true rfl) dX1_moveTarget_72 (fun H locs hP hD hS => ?_)
    replace hP : va_P (dC, dI) vwCl (cx q ca C L f w d st (ap_tg L C tg 4) hi mi go) H := hP
    replace hD : va_D A (cx q ca C L f w d st (ap_tg L C tg 4) hi mi go) := hD
    exact W.vret hx hb hr (fun t ht hW => ⟨⟨(L, w, d, st, ap_tg L C tg 4, hi, mi, go), rfl, rfl, f, hf, by rw [ht]; exact hP, va_K.moved hW.alike hK, hD⟩, hS.F ht⟩) hS.2.2 dX1_moveTarget_75
  · skip
    replace c_2 : 4 = 3 := (nI_eq (a := 4) (b := 3) (by omega) (by omega)).mp c_2
    exact absurd c_2 (by omega)
set_option maxHeartbeats 4000000 in
set_option maxRecDepth 100000 in
theorem c_X_unknown (l : Launch) (dC : Nat → ClassId) (dI : Nat → Nat → Nat) (q : Nat → Nat) (ca : Nat → ClassId) (C : Nat) (L : Nat → List Int32) (f : Nat → Nat → Int32) (w d st : Nat → Int32) (tg : Nat) (hi mi go : Int32) (x : Int32) (sz : Nat) (hf : fx_ok f L) (hok : ap_ok C tg L) : Met l yX1_makeRoomForUnknown wsX1_makeRoomForUnknown ({ frames := 4, cells := 0, slots := 0, locals := 128 }) (va_Pc [.ref (q 0), .int x] (fun U => U.heap.size = sz ∧ va_P (dC, dI) vwCl (cx q ca C L f w d st tg hi mi go) U.heap ∧ va_K (dC, dI) vwCl (kx ca) U ∧ va_D (fun _ => True) (cx q ca C L f w d st tg hi mi go) ∧ va_Nw (.methodLinkNest RX0 23 yX1_isAddress "ArcCache") U)) (va_Qv (fun (u : ap_U) => u = ap_tu w tg hi mi (ap_un w C tg x (L, d, st, go))) (at_X dC dI (va_A (cx q ca C L f w d st tg hi mi go) sz) q ca C) (va_A (cx q ca C L f w d st tg hi mi go) sz)) 0 0 (va_A (cx q ca C L f w d st tg hi mi go) sz) := by
  refine Met.ofW (cc := cX1_makeRoomForUnknown) (maxL := 4) (ret := none) (by decide) rfl ?_
  intro p e s m args below meth c s₁ B hml hv
  obtain ⟨rfl, hsz, hP, hK, hD0, hN⟩ := hv
  have hx := B.exec
  have hb := B.bytes
  have hr := B.returns
  have hts := atoms_spec (ws := wsX1_makeRoomForUnknown) B.pre
  have hown : s.vm.findClass RX1 = some m.cls := findClass_of_methodNamed B.named
  have hlocks := B.notSynchronized
  have hwX1 : ∀ w ∈ u_ws RX1 TX1 12, w ∈ wsX1_makeRoomForUnknown := by decide +kernel
  subst hsz
  have hD := hD0.self (sz := s.heap.size)
  generalize hAe : va_A (cx q ca C L f w d st tg hi mi go) s.heap.size = A at hD ⊢
  have hA : ∀ q : Nat, s.heap.size ≤ q → A q := fun q h => by rw [← hAe]; exact Or.inr h
  have hS0 : ∀ H, s.heap = H → va_S A s.heap H [] := fun H h => by subst h; exact va_S.rf
  have hl := lv_entry ([.ref (q 0), .int x]) (n := 4) (Nat.le_of_ble_eq_true rfl)
  rw [lg_entry_eq]
  generalize (lg_sl ([.ref (q 0), .int x]) ++ List.replicate (4 - (lg_sl ([.ref (q 0), .int x])).length) Slot.unset).toArray = ls at hl ⊢
  have hl : lv_has ls 4 [(0, .ref (q 0)), (1, .int x)] := hl
  generalize hHe : s.heap = H at hP ⊢
  have hS := hS0 H hHe
  obtain ⟨hI, hC1, hC, htg, hs1, hs2, hs3⟩ := id hok
  have hz : ap_tot L ≤ 48 := by omega
  have z1 : (L 1).length ≤ 48 := by unfold ap_tot at hz; omega
  have z2 : (L 2).length ≤ 48 := by unfold ap_tot at hz; omega
  have z3 : (L 3).length ≤ 48 := by unfold ap_tot at hz; omega
  have z4 : (L 4).length ≤ 48 := by unfold ap_tot at hz; omega
  have htot9 : ap_tot L = (L 1).length + (L 2).length + (L 3).length + (L 4).length := rfl
  refine lv_aload_n hx hb dX1_makeRoomForUnknown_0 rfl (lv_at hl 0 rfl) ?_
  refine va_get (D := (dC, dI)) (ci := 1) (v := .ref (q 1)) (C := RX1) (T := TX1) (N := 12) hx hb hts hwX1 hown hK hP 0 rfl rfl 1 (by decide) (hts (.fieldLink RX1 10 "ArcCache" "cameOnce" "LArcCache$AddressList;") (by decide +kernel)) (fun _ h9 => h9) rfl dX1_makeRoomForUnknown_1 ?_
  have hPc := hP.sub (ws' := (cal (q 1) (q 5) (ca 1) ((L 1).length) (f 1))) [1, 2] rfl
  have hDc := hD.sub (ws' := (cal (q 1) (q 5) (ca 1) ((L 1).length) (f 1))) [1, 2] (by decide) rfl
  have hKc := hK.sub (tys' := (kal (ca 1))) [0] rfl
  have hFc := va_free (wc := (cal (q 1) (q 5) (ca 1) ((L 1).length) (f 1))) hD hS hA [1, 2] rfl
  refine va_calli (va_runV (As := []) (rest := []) ⟨hx, hb, hml, hown, hts⟩ (c_A_size l dC dI (q 1) (q 5) (ca 1) (L 1).length (f 1) H.size) (cwV 0 hts gX1_makeRoomForUnknown_X0_size rfl rfl rfl (by decide +kernel) ⟨Nat.le_of_ble_eq_true rfl, Nat.le_of_ble_eq_true rfl⟩) ⟨fun a U g mk q => by obtain ⟨q0, q1, qP, qK, qD⟩ := q; exact ⟨q0, q1, qP, va_K.moved (u := U) (U := U.calling g mk a) (Vm.Alike.refl U.vm) qK, qD⟩, va_recv hKc hPc (ci := 0) (q0 := 0) rfl rfl, fun U hU hW => ⟨rfl, by rw [hU], by rw [hU]; exact hPc, va_K.moved hW.alike hKc, hDc.weaken (fun _ _ _ _ => trivial)⟩⟩ rfl rfl hl.1 rfl (lv_room (Nat.le_of_ble_eq_true rfl)) dX1_makeRoomForUnknown_4 ⟨Nat.le_of_ble_eq_true rfl, Nat.le_of_ble_eq_true rfl⟩) hS (fun q _ h => hFc q h) hFc (fun r u t H1 locs ht hvm hw hB hz1 hk1 hS => ?_)
  obtain ⟨n1, f1⟩ := u
  obtain ⟨hP1, hK1, hD1⟩ := hB
  rw [ht] at hP1
  try dsimp only at hw hP1 hD1
  obtain ⟨hr9, hu⟩ := hw
  cases hu
  obtain ⟨hP, hD⟩ := va_join (wr := [(q 0, .inr (1, [.int (nI C), .ref (q 1), .ref (q 2), .ref (q 3), .ref (q 4), .ref (q 9), .ref (q 10), .ref (q 11), .int (nI tg), .int hi, .int mi, .int go])), (q 2, .inr (0, [.ref (q 6), .int (nI ((L 2).length))])), (q 6, .inl (ca 2, 64, .inl (f 2))), (q 3, .inr (0, [.ref (q 7), .int (nI ((L 3).length))])), (q 7, .inl (ca 3, 64, .inl (f 3))), (q 4, .inr (0, [.ref (q 8), .int (nI ((L 4).length))])), (q 8, .inl (ca 4, 64, .inl (f 4))), (q 9, .inl (ca 5, 64, .inl w)), (q 10, .inl (ca 6, 64, .inl d)), (q 11, .inl (ca 7, 64, .inl st))]) (w1 := (cal (q 1) (q 5) (ca 1) ((L 1).length) (f 1))) hP hD [1, 2] [0, 3, 4, 5, 6, 7, 8, 9, 10, 11] rfl rfl (by decide) (by decide) hk1 hFc hP1 hD1
  generalize H1 = H at hP hS ⊢
  replace hP := hP.sub (ws' := (cx q ca C L f w d st tg hi mi go)) [0, 10, 11, 1, 2, 3, 4, 5, 6, 7, 8, 9] rfl
  replace hD := hD.sub (ws' := (cx q ca C L f w d st tg hi mi go)) [0, 10, 11, 1, 2, 3, 4, 5, 6, 7, 8, 9] (by decide) rfl
  subst hr9
  refine lv_aload_n hx hb dX1_makeRoomForUnknown_7 rfl (lv_at hl 0 rfl) ?_
  refine va_get (D := (dC, dI)) (ci := 1) (v := .ref (q 3)) (C := RX1) (T := TX1) (N := 12) hx hb hts hwX1 hown hK hP 0 rfl rfl 3 (by decide) (hts (.fieldLink RX1 19 "ArcCache" "wentOnce" "LArcCache$AddressList;") (by decide +kernel)) (fun _ h9 => h9) rfl dX1_makeRoomForUnknown_8 ?_
  have hPc := hP.sub (ws' := (cal (q 3) (q 7) (ca 3) ((L 3).length) (f 3))) [5, 6] rfl
  have hDc := hD.sub (ws' := (cal (q 3) (q 7) (ca 3) ((L 3).length) (f 3))) [5, 6] (by decide) rfl
  have hKc := hK.sub (tys' := (kal (ca 3))) [2] rfl
  have hFc := va_free (wc := (cal (q 3) (q 7) (ca 3) ((L 3).length) (f 3))) hD hS hA [5, 6] rfl
  refine va_calli (va_runV (As := []) (rest := [.int (nI ((L 1).length))]) ⟨hx, hb, hml, hown, hts⟩ (c_A_size l dC dI (q 3) (q 7) (ca 3) (L 3).length (f 3) H.size) (cwV 0 hts gX1_makeRoomForUnknown_X0_size rfl rfl rfl (by decide +kernel) ⟨Nat.le_of_ble_eq_true rfl, Nat.le_of_ble_eq_true rfl⟩) ⟨fun a U g mk q => by obtain ⟨q0, q1, qP, qK, qD⟩ := q; exact ⟨q0, q1, qP, va_K.moved (u := U) (U := U.calling g mk a) (Vm.Alike.refl U.vm) qK, qD⟩, va_recv hKc hPc (ci := 0) (q0 := 0) rfl rfl, fun U hU hW => ⟨rfl, by rw [hU], by rw [hU]; exact hPc, va_K.moved hW.alike hKc, hDc.weaken (fun _ _ _ _ => trivial)⟩⟩ rfl rfl hl.1 rfl (lv_room (Nat.le_of_ble_eq_true rfl)) dX1_makeRoomForUnknown_11 ⟨Nat.le_of_ble_eq_true rfl, Nat.le_of_ble_eq_true rfl⟩) hS (fun q _ h => hFc q h) hFc (fun r u t H1 locs ht hvm hw hB hz1 hk1 hS => ?_)
  obtain ⟨n1, f1⟩ := u
  obtain ⟨hP1, hK1, hD1⟩ := hB
  rw [ht] at hP1
  try dsimp only at hw hP1 hD1
  obtain ⟨hr9, hu⟩ := hw
  cases hu
  obtain ⟨hP, hD⟩ := va_join (wr := [(q 0, .inr (1, [.int (nI C), .ref (q 1), .ref (q 2), .ref (q 3), .ref (q 4), .ref (q 9), .ref (q 10), .ref (q 11), .int (nI tg), .int hi, .int mi, .int go])), (q 1, .inr (0, [.ref (q 5), .int (nI ((L 1).length))])), (q 5, .inl (ca 1, 64, .inl (f 1))), (q 2, .inr (0, [.ref (q 6), .int (nI ((L 2).length))])), (q 6, .inl (ca 2, 64, .inl (f 2))), (q 4, .inr (0, [.ref (q 8), .int (nI ((L 4).length))])), (q 8, .inl (ca 4, 64, .inl (f 4))), (q 9, .inl (ca 5, 64, .inl w)), (q 10, .inl (ca 6, 64, .inl d)), (q 11, .inl (ca 7, 64, .inl st))]) (w1 := (cal (q 3) (q 7) (ca 3) ((L 3).length) (f 3))) hP hD [5, 6] [0, 1, 2, 3, 4, 7, 8, 9, 10, 11] rfl rfl (by decide) (by decide) hk1 hFc hP1 hD1
  generalize H1 = H at hP hS ⊢
  replace hP := hP.sub (ws' := (cx q ca C L f w d st tg hi mi go)) [0, 1, 2, 3, 4, 10, 11, 5, 6, 7, 8, 9] rfl
  replace hD := hD.sub (ws' := (cx q ca C L f w d st tg hi mi go)) [0, 1, 2, 3, 4, 10, 11, 5, 6, 7, 8, 9] (by decide) rfl
  subst hr9
  refine lv_iadd hx hb dX1_makeRoomForUnknown_14 ?_
  refine lv_topi (fun x_1 e_x_1 => ?_)
  have e_x_1 : x_1 = nI (((L 1).length) + ((L 3).length)) := by rw [e_x_1]; exact nI_add _ _
  subst e_x_1
  refine lv_istore_n (lv' := [(2, .int (nI (((L 1).length) + ((L 3).length)))), (0, .ref (q 0)), (1, .int x)]) hx hb dX1_makeRoomForUnknown_15 rfl hl (by decide) rfl (fun ls hl => ?_)
  refine lv_iload_n hx hb dX1_makeRoomForUnknown_16 rfl (lv_at hl 0 rfl) ?_
  refine lv_aload_n hx hb dX1_makeRoomForUnknown_17 rfl (lv_at hl 1 rfl) ?_
  refine va_get (D := (dC, dI)) (ci := 1) (v := .ref (q 2)) (C := RX1) (T := TX1) (N := 12) hx hb hts hwX1 hown hK hP 0 rfl rfl 2 (by decide) (hts (.fieldLink RX1 16 "ArcCache" "cameAgain" "LArcCache$AddressList;") (by decide +kernel)) (fun _ h9 => h9) rfl dX1_makeRoomForUnknown_18 ?_
  have hPc := hP.sub (ws' := (cal (q 2) (q 6) (ca 2) ((L 2).length) (f 2))) [3, 4] rfl
  have hDc := hD.sub (ws' := (cal (q 2) (q 6) (ca 2) ((L 2).length) (f 2))) [3, 4] (by decide) rfl
  have hKc := hK.sub (tys' := (kal (ca 2))) [1] rfl
  have hFc := va_free (wc := (cal (q 2) (q 6) (ca 2) ((L 2).length) (f 2))) hD hS hA [3, 4] rfl
  refine va_calli (va_runV (As := []) (rest := [.int (nI (((L 1).length) + ((L 3).length)))]) ⟨hx, hb, hml, hown, hts⟩ (c_A_size l dC dI (q 2) (q 6) (ca 2) (L 2).length (f 2) H.size) (cwV 0 hts gX1_makeRoomForUnknown_X0_size rfl rfl rfl (by decide +kernel) ⟨Nat.le_of_ble_eq_true rfl, Nat.le_of_ble_eq_true rfl⟩) ⟨fun a U g mk q => by obtain ⟨q0, q1, qP, qK, qD⟩ := q; exact ⟨q0, q1, qP, va_K.moved (u := U) (U := U.calling g mk a) (Vm.Alike.refl U.vm) qK, qD⟩, va_recv hKc hPc (ci := 0) (q0 := 0) rfl rfl, fun U hU hW => ⟨rfl, by rw [hU], by rw [hU]; exact hPc, va_K.moved hW.alike hKc, hDc.weaken (fun _ _ _ _ => trivial)⟩⟩ rfl rfl hl.1 rfl (lv_room (Nat.le_of_ble_eq_true rfl)) dX1_makeRoomForUnknown_21 ⟨Nat.le_of_ble_eq_true rfl, Nat.le_of_ble_eq_true rfl⟩) hS (fun q _ h => hFc q h) hFc (fun r u t H1 locs ht hvm hw hB hz1 hk1 hS => ?_)
  obtain ⟨n1, f1⟩ := u
  obtain ⟨hP1, hK1, hD1⟩ := hB
  rw [ht] at hP1
  try dsimp only at hw hP1 hD1
  obtain ⟨hr9, hu⟩ := hw
  cases hu
  obtain ⟨hP, hD⟩ := va_join (wr := [(q 0, .inr (1, [.int (nI C), .ref (q 1), .ref (q 2), .ref (q 3), .ref (q 4), .ref (q 9), .ref (q 10), .ref (q 11), .int (nI tg), .int hi, .int mi, .int go])), (q 1, .inr (0, [.ref (q 5), .int (nI ((L 1).length))])), (q 5, .inl (ca 1, 64, .inl (f 1))), (q 3, .inr (0, [.ref (q 7), .int (nI ((L 3).length))])), (q 7, .inl (ca 3, 64, .inl (f 3))), (q 4, .inr (0, [.ref (q 8), .int (nI ((L 4).length))])), (q 8, .inl (ca 4, 64, .inl (f 4))), (q 9, .inl (ca 5, 64, .inl w)), (q 10, .inl (ca 6, 64, .inl d)), (q 11, .inl (ca 7, 64, .inl st))]) (w1 := (cal (q 2) (q 6) (ca 2) ((L 2).length) (f 2))) hP hD [3, 4] [0, 1, 2, 5, 6, 7, 8, 9, 10, 11] rfl rfl (by decide) (by decide) hk1 hFc hP1 hD1
  generalize H1 = H at hP hS ⊢
  replace hP := hP.sub (ws' := (cx q ca C L f w d st tg hi mi go)) [0, 1, 2, 10, 11, 3, 4, 5, 6, 7, 8, 9] rfl
  replace hD := hD.sub (ws' := (cx q ca C L f w d st tg hi mi go)) [0, 1, 2, 10, 11, 3, 4, 5, 6, 7, 8, 9] (by decide) rfl
  subst hr9
  refine lv_iadd hx hb dX1_makeRoomForUnknown_24 ?_
  refine lv_topi (fun x_2 e_x_2 => ?_)
  have e_x_2 : x_2 = nI ((((L 1).length) + ((L 3).length)) + ((L 2).length)) := by rw [e_x_2]; exact nI_add _ _
  subst e_x_2
  refine lv_aload_n hx hb dX1_makeRoomForUnknown_25 rfl (lv_at hl 1 rfl) ?_
  refine va_get (D := (dC, dI)) (ci := 1) (v := .ref (q 4)) (C := RX1) (T := TX1) (N := 12) hx hb hts hwX1 hown hK hP 0 rfl rfl 4 (by decide) (hts (.fieldLink RX1 22 "ArcCache" "wentAgain" "LArcCache$AddressList;") (by decide +kernel)) (fun _ h9 => h9) rfl dX1_makeRoomForUnknown_26 ?_
  have hPc := hP.sub (ws' := (cal (q 4) (q 8) (ca 4) ((L 4).length) (f 4))) [7, 8] rfl
  have hDc := hD.sub (ws' := (cal (q 4) (q 8) (ca 4) ((L 4).length) (f 4))) [7, 8] (by decide) rfl
  have hKc := hK.sub (tys' := (kal (ca 4))) [3] rfl
  have hFc := va_free (wc := (cal (q 4) (q 8) (ca 4) ((L 4).length) (f 4))) hD hS hA [7, 8] rfl
  refine va_calli (va_runV (As := []) (rest := [.int (nI ((((L 1).length) + ((L 3).length)) + ((L 2).length)))]) ⟨hx, hb, hml, hown, hts⟩ (c_A_size l dC dI (q 4) (q 8) (ca 4) (L 4).length (f 4) H.size) (cwV 0 hts gX1_makeRoomForUnknown_X0_size rfl rfl rfl (by decide +kernel) ⟨Nat.le_of_ble_eq_true rfl, Nat.le_of_ble_eq_true rfl⟩) ⟨fun a U g mk q => by obtain ⟨q0, q1, qP, qK, qD⟩ := q; exact ⟨q0, q1, qP, va_K.moved (u := U) (U := U.calling g mk a) (Vm.Alike.refl U.vm) qK, qD⟩, va_recv hKc hPc (ci := 0) (q0 := 0) rfl rfl, fun U hU hW => ⟨rfl, by rw [hU], by rw [hU]; exact hPc, va_K.moved hW.alike hKc, hDc.weaken (fun _ _ _ _ => trivial)⟩⟩ rfl rfl hl.1 rfl (lv_room (Nat.le_of_ble_eq_true rfl)) dX1_makeRoomForUnknown_29 ⟨Nat.le_of_ble_eq_true rfl, Nat.le_of_ble_eq_true rfl⟩) hS (fun q _ h => hFc q h) hFc (fun r u t H1 locs ht hvm hw hB hz1 hk1 hS => ?_)
  obtain ⟨n1, f1⟩ := u
  obtain ⟨hP1, hK1, hD1⟩ := hB
  rw [ht] at hP1
  try dsimp only at hw hP1 hD1
  obtain ⟨hr9, hu⟩ := hw
  cases hu
  obtain ⟨hP, hD⟩ := va_join (wr := [(q 0, .inr (1, [.int (nI C), .ref (q 1), .ref (q 2), .ref (q 3), .ref (q 4), .ref (q 9), .ref (q 10), .ref (q 11), .int (nI tg), .int hi, .int mi, .int go])), (q 1, .inr (0, [.ref (q 5), .int (nI ((L 1).length))])), (q 5, .inl (ca 1, 64, .inl (f 1))), (q 2, .inr (0, [.ref (q 6), .int (nI ((L 2).length))])), (q 6, .inl (ca 2, 64, .inl (f 2))), (q 3, .inr (0, [.ref (q 7), .int (nI ((L 3).length))])), (q 7, .inl (ca 3, 64, .inl (f 3))), (q 9, .inl (ca 5, 64, .inl w)), (q 10, .inl (ca 6, 64, .inl d)), (q 11, .inl (ca 7, 64, .inl st))]) (w1 := (cal (q 4) (q 8) (ca 4) ((L 4).length) (f 4))) hP hD [7, 8] [0, 1, 2, 3, 4, 5, 6, 9, 10, 11] rfl rfl (by decide) (by decide) hk1 hFc hP1 hD1
  generalize H1 = H at hP hS ⊢
  replace hP := hP.sub (ws' := (cx q ca C L f w d st tg hi mi go)) [0, 1, 2, 3, 4, 5, 6, 10, 11, 7, 8, 9] rfl
  replace hD := hD.sub (ws' := (cx q ca C L f w d st tg hi mi go)) [0, 1, 2, 3, 4, 5, 6, 10, 11, 7, 8, 9] (by decide) rfl
  subst hr9
  refine lv_iadd hx hb dX1_makeRoomForUnknown_32 ?_
  refine lv_topi (fun x_3 e_x_3 => ?_)
  have e_x_3 : x_3 = nI (((((L 1).length) + ((L 3).length)) + ((L 2).length)) + ((L 4).length)) := by rw [e_x_3]; exact nI_add _ _
  subst e_x_3
  refine lv_istore_n (lv' := [(3, .int (nI (((((L 1).length) + ((L 3).length)) + ((L 2).length)) + ((L 4).length)))), (2, .int (nI (((L 1).length) + ((L 3).length)))), (0, .ref (q 0)), (1, .int x)]) hx hb dX1_makeRoomForUnknown_33 rfl hl (by decide) rfl (fun ls hl => ?_)
  refine lv_iload_n hx hb dX1_makeRoomForUnknown_34 rfl (lv_at hl 1 rfl) ?_
  refine lv_aload_n hx hb dX1_makeRoomForUnknown_35 rfl (lv_at hl 2 rfl) ?_
  refine va_get (D := (dC, dI)) (ci := 1) (v := .int (nI C)) (C := RX1) (T := TX1) (N := 12) hx hb hts hwX1 hown hK hP 0 rfl rfl 0 (by decide) (hts (.fieldLink RX1 42 "ArcCache" "pages" "I") (by decide +kernel)) (fun _ h9 => h9) rfl dX1_makeRoomForUnknown_36 ?_
  refine lv_icmp_ne (tgt := 77) hx hb dX1_makeRoomForUnknown_39 (by decide) (fun c_39 => ?_) (fun c_39 => ?_)
  · skip
    replace c_39 : ¬ ((((L 1).length) + ((L 3).length)) = C) := fun h9 => c_39 ((nI_eq (a := ((L 1).length) + ((L 3).length)) (b := C) (by omega) (by omega)).mpr h9)
    refine lv_iload_n hx hb dX1_makeRoomForUnknown_77 rfl (lv_at hl 1 rfl) ?_
    refine lv_aload_n hx hb dX1_makeRoomForUnknown_78 rfl (lv_at hl 2 rfl) ?_
    refine va_get (D := (dC, dI)) (ci := 1) (v := .int (nI C)) (C := RX1) (T := TX1) (N := 12) hx hb hts hwX1 hown hK hP 0 rfl rfl 0 (by decide) (hts (.fieldLink RX1 42 "ArcCache" "pages" "I") (by decide +kernel)) (fun _ h9 => h9) rfl dX1_makeRoomForUnknown_79 ?_
    refine lv_icmp_ne (tgt := 100) hx hb dX1_makeRoomForUnknown_82 (by decide) (fun c_82 => ?_) (fun c_82 => ?_)
    · skip
      replace c_82 : ¬ ((((L 1).length) + ((L 3).length)) = C) := fun h9 => c_82 ((nI_eq (a := ((L 1).length) + ((L 3).length)) (b := C) (by omega) (by omega)).mpr h9)
      refine lv_iload_n hx hb dX1_makeRoomForUnknown_100 rfl (lv_at hl 0 rfl) ?_
      refine lv_aload_n hx hb dX1_makeRoomForUnknown_101 rfl (lv_at hl 2 rfl) ?_
      refine va_get (D := (dC, dI)) (ci := 1) (v := .int (nI C)) (C := RX1) (T := TX1) (N := 12) hx hb hts hwX1 hown hK hP 0 rfl rfl 0 (by decide) (hts (.fieldLink RX1 42 "ArcCache" "pages" "I") (by decide +kernel)) (fun _ h9 => h9) rfl dX1_makeRoomForUnknown_102 ?_
      refine lv_icmp_lt (tgt := 130) hx hb dX1_makeRoomForUnknown_105 (by decide) (fun c_105 => ?_) (fun c_105 => ?_)
      · skip
        replace c_105 : (((((L 1).length) + ((L 3).length)) + ((L 2).length)) + ((L 4).length)) < C := (nI_ltI (a := ((((L 1).length) + ((L 3).length)) + ((L 2).length)) + ((L 4).length)) (b := C) (by omega) (by omega)).mp c_105
        have hfin9 : (L, w, d, st, tg, hi, mi, go) = ap_tu w tg hi mi (ap_un w C tg x (L, d, st, go)) := by rw [ap_un_E (S := (L, d, st, go)) c_39 (by show ¬ C ≤ ap_tot L; omega)]; rfl
        exact W.vret hx hb hr (fun t ht hW => ⟨⟨(L, w, d, st, tg, hi, mi, go), rfl, hfin9, f, hf, by rw [ht]; exact hP, va_K.moved hW.alike hK, hD⟩, hS.F ht⟩) hS.2.2 dX1_makeRoomForUnknown_130
      · skip
        replace c_105 : ¬ ((((((L 1).length) + ((L 3).length)) + ((L 2).length)) + ((L 4).length)) < C) := fun h9 => c_105 ((nI_ltI (a := ((((L 1).length) + ((L 3).length)) + ((L 2).length)) + ((L 4).length)) (b := C) (by omega) (by omega)).mpr h9)
        refine lv_iload_n hx hb dX1_makeRoomForUnknown_108 rfl (lv_at hl 0 rfl) ?_
        refine lv_iconst (v := nI 2) hx hb dX1_makeRoomForUnknown_109 (by decide) ?_
        refine lv_aload_n hx hb dX1_makeRoomForUnknown_110 rfl (lv_at hl 2 rfl) ?_
        refine va_get (D := (dC, dI)) (ci := 1) (v := .int (nI C)) (C := RX1) (T := TX1) (N := 12) hx hb hts hwX1 hown hK hP 0 rfl rfl 0 (by decide) (hts (.fieldLink RX1 42 "ArcCache" "pages" "I") (by decide +kernel)) (fun _ h9 => h9) rfl dX1_makeRoomForUnknown_111 ?_
        refine lv_imul hx hb dX1_makeRoomForUnknown_114 ?_
        refine lv_topi (fun x_4 e_x_4 => ?_)
        have e_x_4 : x_4 = nI (2 * C) := by rw [e_x_4]; exact pk_mul _ _
        subst e_x_4
        refine lv_icmp_ne (tgt := 125) hx hb dX1_makeRoomForUnknown_115 (by decide) (fun c_115 => ?_) (fun c_115 => ?_)
        · skip
          replace c_115 : ¬ ((((((L 1).length) + ((L 3).length)) + ((L 2).length)) + ((L 4).length)) = (2 * C)) := fun h9 => c_115 ((nI_eq (a := ((((L 1).length) + ((L 3).length)) + ((L 2).length)) + ((L 4).length)) (b := 2 * C) (by omega) (by omega)).mpr h9)
          refine lv_aload_n hx hb dX1_makeRoomForUnknown_125 rfl (lv_at hl 2 rfl) ?_
          refine lv_iload_n hx hb dX1_makeRoomForUnknown_126 rfl (lv_at hl 3 rfl) ?_
          have hcC9 : C ≤ ap_tot L := by omega
          have hcD8 : ¬ ap_tot L = 2 * C := by omega
          have hfin9 : ap_tu w tg hi mi (ap_mk w tg x (L, d, st, go)) = ap_tu w tg hi mi (ap_un w C tg x (L, d, st, go)) := by rw [ap_un_D (S := (L, d, st, go)) c_39 hcC9 hcD8]
          have hPc := hP.sub (ws' := (cx q ca C L f w d st tg hi mi go)) [0, 1, 2, 3, 4, 5, 6, 7, 8, 9, 10, 11] rfl
          have hDc := hD.sub (ws' := (cx q ca C L f w d st tg hi mi go)) [0, 1, 2, 3, 4, 5, 6, 7, 8, 9, 10, 11] (by decide) rfl
          have hKc := hK.sub (tys' := (kx ca)) [0, 1, 2, 3, 4, 5, 6] rfl
          have hFc := va_free (wc := (cx q ca C L f w d st tg hi mi go)) hD hS hA [0, 1, 2, 3, 4, 5, 6, 7, 8, 9, 10, 11] rfl
          refine va_callv (va_runV (As := [.int x]) (rest := []) ⟨hx, hb, hml, hown, hts⟩ (c_X_makeRoom l dC dI q ca C L f w d st tg hi mi go x H.size hf hI hz (by omega)) (cwV 1 hts gX1_makeRoomForUnknown_X1_makeRoom rfl rfl rfl (by decide +kernel) ⟨Nat.le_of_ble_eq_true rfl, Nat.le_of_ble_eq_true rfl⟩) ⟨fun a U g mk q => by obtain ⟨q0, q1, qP, qK, qD, qN⟩ := q; exact ⟨q0, q1, qP, va_K.moved (u := U) (U := U.calling g mk a) (Vm.Alike.refl U.vm) qK, qD, va_tabs rfl (rfl : U.vm = (U.calling g mk a).vm) qN⟩, va_recv hKc hPc (ci := 1) (q0 := 0) rfl rfl, fun U hU hW => ⟨rfl, by rw [hU], by rw [hU]; exact hPc, va_K.moved hW.alike hKc, hDc.weaken (fun _ _ _ _ => trivial), va_Nw.warmM hW hN⟩⟩ rfl rfl hl.1 rfl (lv_room (Nat.le_of_ble_eq_true rfl)) dX1_makeRoomForUnknown_127 ⟨Nat.le_of_ble_eq_true rfl, Nat.le_of_ble_eq_true rfl⟩) hS (fun q _ h => hFc q h) hFc (fun u t H1 locs ht hvm hw hB hz1 hk1 hS => ?_)
          obtain ⟨L1, w1, d1, st1, tg1, hi1, mi1, go1⟩ := u
          obtain ⟨f1, hf1, hP1, hK1, hD1⟩ := hB
          rw [ht] at hP1
          obtain ⟨f_5, ef_5⟩ : ∃ z, z = f1 := ⟨_, rfl⟩
          rw [← ef_5] at hf1 hP1 hD1
          clear ef_5 f1
          replace hw := hw.symm
          simp only [ap_tu, Prod.mk.injEq] at hw
          obtain ⟨rfl, rfl, rfl, rfl, rfl, rfl, rfl, rfl⟩ := hw
          have hfx_6 := hf1
          obtain ⟨hP, hD⟩ := va_join (wr := []) (w1 := (cx q ca C ((ap_mk w tg x (L, d, st, go)).1) f_5 w ((ap_mk w tg x (L, d, st, go)).2.1) ((ap_mk w tg x (L, d, st, go)).2.2.1) tg hi mi ((ap_mk w tg x (L, d, st, go)).2.2.2))) hP hD [0, 1, 2, 3, 4, 5, 6, 7, 8, 9, 10, 11] [] rfl rfl (by decide) (by decide) hk1 hFc hP1 hD1
          generalize H1 = H at hP hS ⊢
          replace hP : va_P (dC, dI) vwCl (cx q ca C ((ap_mk w tg x (L, d, st, go)).1) f_5 w ((ap_mk w tg x (L, d, st, go)).2.1) ((ap_mk w tg x (L, d, st, go)).2.2.1) tg hi mi ((ap_mk w tg x (L, d, st, go)).2.2.2)) H := hP
          replace hD : va_D A (cx q ca C ((ap_mk w tg x (L, d, st, go)).1) f_5 w ((ap_mk w tg x (L, d, st, go)).2.1) ((ap_mk w tg x (L, d, st, go)).2.2.1) tg hi mi ((ap_mk w tg x (L, d, st, go)).2.2.2)) := hD
          exact W.vret hx hb hr (fun t ht hW => ⟨⟨ap_tu w tg hi mi (ap_mk w tg x (L, d, st, go)), rfl, hfin9, f_5, hfx_6, by rw [ht]; exact hP, va_K.moved hW.alike hK, hD⟩, hS.F ht⟩) hS.2.2 dX1_makeRoomForUnknown_130
        · skip
          replace c_115 : (((((L 1).length) + ((L 3).length)) + ((L 2).length)) + ((L 4).length)) = (2 * C) := (nI_eq (a := ((((L 1).length) + ((L 3).length)) + ((L 2).length)) + ((L 4).length)) (b := 2 * C) (by omega) (by omega)).mp c_115
          refine lv_aload_n hx hb dX1_makeRoomForUnknown_118 rfl (lv_at hl 2 rfl) ?_
          refine va_get (D := (dC, dI)) (ci := 1) (v := .ref (q 4)) (C := RX1) (T := TX1) (N := 12) hx hb hts hwX1 hown hK hP 0 rfl rfl 4 (by decide) (hts (.fieldLink RX1 22 "ArcCache" "wentAgain" "LArcCache$AddressList;") (by decide +kernel)) (fun _ h9 => h9) rfl dX1_makeRoomForUnknown_119 ?_
          have hPc := hP.sub (ws' := (cal (q 4) (q 8) (ca 4) ((L 4).length) (f 4))) [7, 8] rfl
          have hDc := hD.sub (ws' := (cal (q 4) (q 8) (ca 4) ((L 4).length) (f 4))) [7, 8] (by decide) rfl
          have hKc := hK.sub (tys' := (kal (ca 4))) [3] rfl
          have hFc := va_free (wc := (cal (q 4) (q 8) (ca 4) ((L 4).length) (f 4))) hD hS hA [7, 8] rfl
          refine va_callv (va_runV (As := []) (rest := []) ⟨hx, hb, hml, hown, hts⟩ (c_A_dropOldest l dC dI (q 4) (q 8) (ca 4) (L 4) (f 4) H.size (Nat.le_trans z4 (by decide)) (hf 4 (by decide) (by decide)) (hI.1 4)) (cwV 0 hts gX1_makeRoomForUnknown_X0_dropOldest rfl rfl rfl (by decide +kernel) ⟨Nat.le_of_ble_eq_true rfl, Nat.le_of_ble_eq_true rfl⟩) ⟨fun a U g mk q => by obtain ⟨q0, q1, qP, qK, qD⟩ := q; exact ⟨q0, q1, qP, va_K.moved (u := U) (U := U.calling g mk a) (Vm.Alike.refl U.vm) qK, qD⟩, va_recv hKc hPc (ci := 0) (q0 := 0) rfl rfl, fun U hU hW => ⟨rfl, by rw [hU], by rw [hU]; exact hPc, va_K.moved hW.alike hKc, hDc.weaken (fun _ _ _ _ => trivial)⟩⟩ rfl rfl hl.1 rfl (lv_room (Nat.le_of_ble_eq_true rfl)) dX1_makeRoomForUnknown_122 ⟨Nat.le_of_ble_eq_true rfl, Nat.le_of_ble_eq_true rfl⟩) hS (fun q _ h => hFc q h) hFc (fun u t H1 locs ht hvm hw hB hz1 hk1 hS => ?_)
          obtain ⟨n1, f1⟩ := u
          obtain ⟨hP1, hK1, hD1⟩ := hB
          rw [ht] at hP1
          try dsimp only at hw hP1 hD1
          obtain ⟨hn9, hf9⟩ := hw
          subst hn9
          obtain ⟨f_7, ef_7⟩ : ∃ z, z = f1 := ⟨_, rfl⟩
          rw [← ef_7] at hf9 hP1 hD1
          clear ef_7 f1
          have hfx_8 := fx_up (k := 4) hf hf9
          obtain ⟨hP, hD⟩ := va_join (wr := [(q 0, .inr (1, [.int (nI C), .ref (q 1), .ref (q 2), .ref (q 3), .ref (q 4), .ref (q 9), .ref (q 10), .ref (q 11), .int (nI tg), .int hi, .int mi, .int go])), (q 1, .inr (0, [.ref (q 5), .int (nI ((L 1).length))])), (q 5, .inl (ca 1, 64, .inl (f 1))), (q 2, .inr (0, [.ref (q 6), .int (nI ((L 2).length))])), (q 6, .inl (ca 2, 64, .inl (f 2))), (q 3, .inr (0, [.ref (q 7), .int (nI ((L 3).length))])), (q 7, .inl (ca 3, 64, .inl (f 3))), (q 9, .inl (ca 5, 64, .inl w)), (q 10, .inl (ca 6, 64, .inl d)), (q 11, .inl (ca 7, 64, .inl st))]) (w1 := (cal (q 4) (q 8) (ca 4) ((ap_rm (ap_old (L 4)) (L 4)).length) f_7)) hP hD [7, 8] [0, 1, 2, 3, 4, 5, 6, 9, 10, 11] rfl rfl (by decide) (by decide) hk1 hFc hP1 hD1
          generalize H1 = H at hP hS ⊢
          replace hP := hP.sub (ws' := (cx q ca C (va_up L 4 (ap_rm (ap_old (L 4)) (L 4))) (va_up f 4 f_7) w d st tg hi mi go)) [0, 1, 2, 3, 4, 5, 6, 10, 11, 7, 8, 9] rfl
          replace hD := hD.sub (ws' := (cx q ca C (va_up L 4 (ap_rm (ap_old (L 4)) (L 4))) (va_up f 4 f_7) w d st tg hi mi go)) [0, 1, 2, 3, 4, 5, 6, 10, 11, 7, 8, 9] (by decide) rfl
          replace hP : va_P (dC, dI) vwCl (cx q ca C (ap_dr L 4) (va_up f 4 f_7) w d st tg hi mi go) H := hP
          replace hD : va_D A (cx q ca C (ap_dr L 4) (va_up f 4 f_7) w d st tg hi mi go) := hD
          have hfx_8d : fx_ok (va_up f 4 f_7) (ap_dr L 4) := hfx_8
          refine lv_aload_n hx hb dX1_makeRoomForUnknown_125 rfl (lv_at hl 2 rfl) ?_
          refine lv_iload_n hx hb dX1_makeRoomForUnknown_126 rfl (lv_at hl 3 rfl) ?_
          have hcC9 : C ≤ ap_tot L := by omega
          have hcC8 : ap_tot L = 2 * C := by omega
          have hfin9 : ap_tu w tg hi mi (ap_mk w tg x (ap_dr L 4, d, st, go)) = ap_tu w tg hi mi (ap_un w C tg x (L, d, st, go)) := by rw [ap_un_C (S := (L, d, st, go)) c_39 hcC9 hcC8]
          have hPc := hP.sub (ws' := (cx q ca C (ap_dr L 4) (va_up f 4 f_7) w d st tg hi mi go)) [0, 1, 2, 3, 4, 5, 6, 7, 8, 9, 10, 11] rfl
          have hDc := hD.sub (ws' := (cx q ca C (ap_dr L 4) (va_up f 4 f_7) w d st tg hi mi go)) [0, 1, 2, 3, 4, 5, 6, 7, 8, 9, 10, 11] (by decide) rfl
          have hKc := hK.sub (tys' := (kx ca)) [0, 1, 2, 3, 4, 5, 6] rfl
          have hFc := va_free (wc := (cx q ca C (ap_dr L 4) (va_up f 4 f_7) w d st tg hi mi go)) hD hS hA [0, 1, 2, 3, 4, 5, 6, 7, 8, 9, 10, 11] rfl
          refine va_callv (va_runV (As := [.int x]) (rest := []) ⟨hx, hb, hml, hown, hts⟩ (c_X_makeRoom l dC dI q ca C (ap_dr L 4) (va_up f 4 f_7) w d st tg hi mi go x H.size hfx_8d (ap_inv_dr hI 4) (ap_tot_dr hz 4) (by omega)) (cwV 1 hts gX1_makeRoomForUnknown_X1_makeRoom rfl rfl rfl (by decide +kernel) ⟨Nat.le_of_ble_eq_true rfl, Nat.le_of_ble_eq_true rfl⟩) ⟨fun a U g mk q => by obtain ⟨q0, q1, qP, qK, qD, qN⟩ := q; exact ⟨q0, q1, qP, va_K.moved (u := U) (U := U.calling g mk a) (Vm.Alike.refl U.vm) qK, qD, va_tabs rfl (rfl : U.vm = (U.calling g mk a).vm) qN⟩, va_recv hKc hPc (ci := 1) (q0 := 0) rfl rfl, fun U hU hW => ⟨rfl, by rw [hU], by rw [hU]; exact hPc, va_K.moved hW.alike hKc, hDc.weaken (fun _ _ _ _ => trivial), va_Nw.warmM hW hN⟩⟩ rfl rfl hl.1 rfl (lv_room (Nat.le_of_ble_eq_true rfl)) dX1_makeRoomForUnknown_127 ⟨Nat.le_of_ble_eq_true rfl, Nat.le_of_ble_eq_true rfl⟩) hS (fun q _ h => hFc q h) hFc (fun u t H1 locs ht hvm hw hB hz1 hk1 hS => ?_)
          obtain ⟨L1, w1, d1, st1, tg1, hi1, mi1, go1⟩ := u
          obtain ⟨f1, hf1, hP1, hK1, hD1⟩ := hB
          rw [ht] at hP1
          obtain ⟨f_9, ef_9⟩ : ∃ z, z = f1 := ⟨_, rfl⟩
          rw [← ef_9] at hf1 hP1 hD1
          clear ef_9 f1
          replace hw := hw.symm
          simp only [ap_tu, Prod.mk.injEq] at hw
          obtain ⟨rfl, rfl, rfl, rfl, rfl, rfl, rfl, rfl⟩ := hw
          have hfx_10 := hf1
          obtain ⟨hP, hD⟩ := va_join (wr := []) (w1 := (cx q ca C ((ap_mk w tg x (ap_dr L 4, d, st, go)).1) f_9 w ((ap_mk w tg x (ap_dr L 4, d, st, go)).2.1) ((ap_mk w tg x (ap_dr L 4, d, st, go)).2.2.1) tg hi mi ((ap_mk w tg x (ap_dr L 4, d, st, go)).2.2.2))) hP hD [0, 1, 2, 3, 4, 5, 6, 7, 8, 9, 10, 11] [] rfl rfl (by decide) (by decide) hk1 hFc hP1 hD1
          generalize H1 = H at hP hS ⊢
          replace hP : va_P (dC, dI) vwCl (cx q ca C ((ap_mk w tg x (ap_dr L 4, d, st, go)).1) f_9 w ((ap_mk w tg x (ap_dr L 4, d, st, go)).2.1) ((ap_mk w tg x (ap_dr L 4, d, st, go)).2.2.1) tg hi mi ((ap_mk w tg x (ap_dr L 4, d, st, go)).2.2.2)) H := hP
          replace hD : va_D A (cx q ca C ((ap_mk w tg x (ap_dr L 4, d, st, go)).1) f_9 w ((ap_mk w tg x (ap_dr L 4, d, st, go)).2.1) ((ap_mk w tg x (ap_dr L 4, d, st, go)).2.2.1) tg hi mi ((ap_mk w tg x (ap_dr L 4, d, st, go)).2.2.2)) := hD
          exact W.vret hx hb hr (fun t ht hW => ⟨⟨ap_tu w tg hi mi (ap_mk w tg x (ap_dr L 4, d, st, go)), rfl, hfin9, f_9, hfx_10, by rw [ht]; exact hP, va_K.moved hW.alike hK, hD⟩, hS.F ht⟩) hS.2.2 dX1_makeRoomForUnknown_130
    · skip
      replace c_82 : (((L 1).length) + ((L 3).length)) = C := (nI_eq (a := ((L 1).length) + ((L 3).length)) (b := C) (by omega) (by omega)).mp c_82
      exact absurd c_82 c_39
  · skip
    replace c_39 : (((L 1).length) + ((L 3).length)) = C := (nI_eq (a := ((L 1).length) + ((L 3).length)) (b := C) (by omega) (by omega)).mp c_39
    refine lv_aload_n hx hb dX1_makeRoomForUnknown_42 rfl (lv_at hl 2 rfl) ?_
    refine va_get (D := (dC, dI)) (ci := 1) (v := .ref (q 1)) (C := RX1) (T := TX1) (N := 12) hx hb hts hwX1 hown hK hP 0 rfl rfl 1 (by decide) (hts (.fieldLink RX1 10 "ArcCache" "cameOnce" "LArcCache$AddressList;") (by decide +kernel)) (fun _ h9 => h9) rfl dX1_makeRoomForUnknown_43 ?_
    have hPc := hP.sub (ws' := (cal (q 1) (q 5) (ca 1) ((L 1).length) (f 1))) [1, 2] rfl
    have hDc := hD.sub (ws' := (cal (q 1) (q 5) (ca 1) ((L 1).length) (f 1))) [1, 2] (by decide) rfl
    have hKc := hK.sub (tys' := (kal (ca 1))) [0] rfl
    have hFc := va_free (wc := (cal (q 1) (q 5) (ca 1) ((L 1).length) (f 1))) hD hS hA [1, 2] rfl
    refine va_calli (va_runV (As := []) (rest := []) ⟨hx, hb, hml, hown, hts⟩ (c_A_size l dC dI (q 1) (q 5) (ca 1) (L 1).length (f 1) H.size) (cwV 0 hts gX1_makeRoomForUnknown_X0_size rfl rfl rfl (by decide +kernel) ⟨Nat.le_of_ble_eq_true rfl, Nat.le_of_ble_eq_true rfl⟩) ⟨fun a U g mk q => by obtain ⟨q0, q1, qP, qK, qD⟩ := q; exact ⟨q0, q1, qP, va_K.moved (u := U) (U := U.calling g mk a) (Vm.Alike.refl U.vm) qK, qD⟩, va_recv hKc hPc (ci := 0) (q0 := 0) rfl rfl, fun U hU hW => ⟨rfl, by rw [hU], by rw [hU]; exact hPc, va_K.moved hW.alike hKc, hDc.weaken (fun _ _ _ _ => trivial)⟩⟩ rfl rfl hl.1 rfl (lv_room (Nat.le_of_ble_eq_true rfl)) dX1_makeRoomForUnknown_46 ⟨Nat.le_of_ble_eq_true rfl, Nat.le_of_ble_eq_true rfl⟩) hS (fun q _ h => hFc q h) hFc (fun r u t H1 locs ht hvm hw hB hz1 hk1 hS => ?_)
    obtain ⟨n1, f1⟩ := u
    obtain ⟨hP1, hK1, hD1⟩ := hB
    rw [ht] at hP1
    try dsimp only at hw hP1 hD1
    obtain ⟨hr9, hu⟩ := hw
    cases hu
    obtain ⟨hP, hD⟩ := va_join (wr := [(q 0, .inr (1, [.int (nI C), .ref (q 1), .ref (q 2), .ref (q 3), .ref (q 4), .ref (q 9), .ref (q 10), .ref (q 11), .int (nI tg), .int hi, .int mi, .int go])), (q 2, .inr (0, [.ref (q 6), .int (nI ((L 2).length))])), (q 6, .inl (ca 2, 64, .inl (f 2))), (q 3, .inr (0, [.ref (q 7), .int (nI ((L 3).length))])), (q 7, .inl (ca 3, 64, .inl (f 3))), (q 4, .inr (0, [.ref (q 8), .int (nI ((L 4).length))])), (q 8, .inl (ca 4, 64, .inl (f 4))), (q 9, .inl (ca 5, 64, .inl w)), (q 10, .inl (ca 6, 64, .inl d)), (q 11, .inl (ca 7, 64, .inl st))]) (w1 := (cal (q 1) (q 5) (ca 1) ((L 1).length) (f 1))) hP hD [1, 2] [0, 3, 4, 5, 6, 7, 8, 9, 10, 11] rfl rfl (by decide) (by decide) hk1 hFc hP1 hD1
    generalize H1 = H at hP hS ⊢
    replace hP := hP.sub (ws' := (cx q ca C L f w d st tg hi mi go)) [0, 10, 11, 1, 2, 3, 4, 5, 6, 7, 8, 9] rfl
    replace hD := hD.sub (ws' := (cx q ca C L f w d st tg hi mi go)) [0, 10, 11, 1, 2, 3, 4, 5, 6, 7, 8, 9] (by decide) rfl
    subst hr9
    refine lv_aload_n hx hb dX1_makeRoomForUnknown_49 rfl (lv_at hl 2 rfl) ?_
    refine va_get (D := (dC, dI)) (ci := 1) (v := .int (nI C)) (C := RX1) (T := TX1) (N := 12) hx hb hts hwX1 hown hK hP 0 rfl rfl 0 (by decide) (hts (.fieldLink RX1 42 "ArcCache" "pages" "I") (by decide +kernel)) (fun _ h9 => h9) rfl dX1_makeRoomForUnknown_50 ?_
    refine lv_icmp_ne (tgt := 77) hx hb dX1_makeRoomForUnknown_53 (by decide) (fun c_53 => ?_) (fun c_53 => ?_)
    · skip
      replace c_53 : ¬ (((L 1).length) = C) := fun h9 => c_53 ((nI_eq (a := (L 1).length) (b := C) (by omega) (by omega)).mpr h9)
      refine lv_iload_n hx hb dX1_makeRoomForUnknown_77 rfl (lv_at hl 1 rfl) ?_
      refine lv_aload_n hx hb dX1_makeRoomForUnknown_78 rfl (lv_at hl 2 rfl) ?_
      refine va_get (D := (dC, dI)) (ci := 1) (v := .int (nI C)) (C := RX1) (T := TX1) (N := 12) hx hb hts hwX1 hown hK hP 0 rfl rfl 0 (by decide) (hts (.fieldLink RX1 42 "ArcCache" "pages" "I") (by decide +kernel)) (fun _ h9 => h9) rfl dX1_makeRoomForUnknown_79 ?_
      refine lv_icmp_ne (tgt := 100) hx hb dX1_makeRoomForUnknown_82 (by decide) (fun c_82 => ?_) (fun c_82 => ?_)
      · skip
        replace c_82 : ¬ ((((L 1).length) + ((L 3).length)) = C) := fun h9 => c_82 ((nI_eq (a := ((L 1).length) + ((L 3).length)) (b := C) (by omega) (by omega)).mpr h9)
        exact absurd c_39 c_82
      · skip
        replace c_82 : (((L 1).length) + ((L 3).length)) = C := (nI_eq (a := ((L 1).length) + ((L 3).length)) (b := C) (by omega) (by omega)).mp c_82
        refine lv_aload_n hx hb dX1_makeRoomForUnknown_85 rfl (lv_at hl 2 rfl) ?_
        refine va_get (D := (dC, dI)) (ci := 1) (v := .ref (q 3)) (C := RX1) (T := TX1) (N := 12) hx hb hts hwX1 hown hK hP 0 rfl rfl 3 (by decide) (hts (.fieldLink RX1 19 "ArcCache" "wentOnce" "LArcCache$AddressList;") (by decide +kernel)) (fun _ h9 => h9) rfl dX1_makeRoomForUnknown_86 ?_
        have hPc := hP.sub (ws' := (cal (q 3) (q 7) (ca 3) ((L 3).length) (f 3))) [5, 6] rfl
        have hDc := hD.sub (ws' := (cal (q 3) (q 7) (ca 3) ((L 3).length) (f 3))) [5, 6] (by decide) rfl
        have hKc := hK.sub (tys' := (kal (ca 3))) [2] rfl
        have hFc := va_free (wc := (cal (q 3) (q 7) (ca 3) ((L 3).length) (f 3))) hD hS hA [5, 6] rfl
        refine va_callv (va_runV (As := []) (rest := []) ⟨hx, hb, hml, hown, hts⟩ (c_A_dropOldest l dC dI (q 3) (q 7) (ca 3) (L 3) (f 3) H.size (Nat.le_trans z3 (by decide)) (hf 3 (by decide) (by decide)) (hI.1 3)) (cwV 0 hts gX1_makeRoomForUnknown_X0_dropOldest rfl rfl rfl (by decide +kernel) ⟨Nat.le_of_ble_eq_true rfl, Nat.le_of_ble_eq_true rfl⟩) ⟨fun a U g mk q => by obtain ⟨q0, q1, qP, qK, qD⟩ := q; exact ⟨q0, q1, qP, va_K.moved (u := U) (U := U.calling g mk a) (Vm.Alike.refl U.vm) qK, qD⟩, va_recv hKc hPc (ci := 0) (q0 := 0) rfl rfl, fun U hU hW => ⟨rfl, by rw [hU], by rw [hU]; exact hPc, va_K.moved hW.alike hKc, hDc.weaken (fun _ _ _ _ => trivial)⟩⟩ rfl rfl hl.1 rfl (lv_room (Nat.le_of_ble_eq_true rfl)) dX1_makeRoomForUnknown_89 ⟨Nat.le_of_ble_eq_true rfl, Nat.le_of_ble_eq_true rfl⟩) hS (fun q _ h => hFc q h) hFc (fun u t H1 locs ht hvm hw hB hz1 hk1 hS => ?_)
        obtain ⟨n1, f1⟩ := u
        obtain ⟨hP1, hK1, hD1⟩ := hB
        rw [ht] at hP1
        try dsimp only at hw hP1 hD1
        obtain ⟨hn9, hf9⟩ := hw
        subst hn9
        obtain ⟨f_11, ef_11⟩ : ∃ z, z = f1 := ⟨_, rfl⟩
        rw [← ef_11] at hf9 hP1 hD1
        clear ef_11 f1
        have hfx_12 := fx_up (k := 3) hf hf9
        obtain ⟨hP, hD⟩ := va_join (wr := [(q 0, .inr (1, [.int (nI C), .ref (q 1), .ref (q 2), .ref (q 3), .ref (q 4), .ref (q 9), .ref (q 10), .ref (q 11), .int (nI tg), .int hi, .int mi, .int go])), (q 1, .inr (0, [.ref (q 5), .int (nI ((L 1).length))])), (q 5, .inl (ca 1, 64, .inl (f 1))), (q 2, .inr (0, [.ref (q 6), .int (nI ((L 2).length))])), (q 6, .inl (ca 2, 64, .inl (f 2))), (q 4, .inr (0, [.ref (q 8), .int (nI ((L 4).length))])), (q 8, .inl (ca 4, 64, .inl (f 4))), (q 9, .inl (ca 5, 64, .inl w)), (q 10, .inl (ca 6, 64, .inl d)), (q 11, .inl (ca 7, 64, .inl st))]) (w1 := (cal (q 3) (q 7) (ca 3) ((ap_rm (ap_old (L 3)) (L 3)).length) f_11)) hP hD [5, 6] [0, 1, 2, 3, 4, 7, 8, 9, 10, 11] rfl rfl (by decide) (by decide) hk1 hFc hP1 hD1
        generalize H1 = H at hP hS ⊢
        replace hP := hP.sub (ws' := (cx q ca C (va_up L 3 (ap_rm (ap_old (L 3)) (L 3))) (va_up f 3 f_11) w d st tg hi mi go)) [0, 1, 2, 3, 4, 10, 11, 5, 6, 7, 8, 9] rfl
        replace hD := hD.sub (ws' := (cx q ca C (va_up L 3 (ap_rm (ap_old (L 3)) (L 3))) (va_up f 3 f_11) w d st tg hi mi go)) [0, 1, 2, 3, 4, 10, 11, 5, 6, 7, 8, 9] (by decide) rfl
        replace hP : va_P (dC, dI) vwCl (cx q ca C (ap_dr L 3) (va_up f 3 f_11) w d st tg hi mi go) H := hP
        replace hD : va_D A (cx q ca C (ap_dr L 3) (va_up f 3 f_11) w d st tg hi mi go) := hD
        have hfx_12d : fx_ok (va_up f 3 f_11) (ap_dr L 3) := hfx_12
        refine lv_aload_n hx hb dX1_makeRoomForUnknown_92 rfl (lv_at hl 2 rfl) ?_
        refine lv_iload_n hx hb dX1_makeRoomForUnknown_93 rfl (lv_at hl 3 rfl) ?_
        have hcB9 : ¬ (L 1).length = C := c_53
        have hfin9 : ap_tu w tg hi mi (ap_mk w tg x (ap_dr L 3, d, st, go)) = ap_tu w tg hi mi (ap_un w C tg x (L, d, st, go)) := by rw [ap_un_B (S := (L, d, st, go)) c_39 hcB9]
        have hPc := hP.sub (ws' := (cx q ca C (ap_dr L 3) (va_up f 3 f_11) w d st tg hi mi go)) [0, 1, 2, 3, 4, 5, 6, 7, 8, 9, 10, 11] rfl
        have hDc := hD.sub (ws' := (cx q ca C (ap_dr L 3) (va_up f 3 f_11) w d st tg hi mi go)) [0, 1, 2, 3, 4, 5, 6, 7, 8, 9, 10, 11] (by decide) rfl
        have hKc := hK.sub (tys' := (kx ca)) [0, 1, 2, 3, 4, 5, 6] rfl
        have hFc := va_free (wc := (cx q ca C (ap_dr L 3) (va_up f 3 f_11) w d st tg hi mi go)) hD hS hA [0, 1, 2, 3, 4, 5, 6, 7, 8, 9, 10, 11] rfl
        refine va_callv (va_runV (As := [.int x]) (rest := []) ⟨hx, hb, hml, hown, hts⟩ (c_X_makeRoom l dC dI q ca C (ap_dr L 3) (va_up f 3 f_11) w d st tg hi mi go x H.size hfx_12d (ap_inv_dr hI 3) (ap_tot_dr hz 3) (by omega)) (cwV 1 hts gX1_makeRoomForUnknown_X1_makeRoom rfl rfl rfl (by decide +kernel) ⟨Nat.le_of_ble_eq_true rfl, Nat.le_of_ble_eq_true rfl⟩) ⟨fun a U g mk q => by obtain ⟨q0, q1, qP, qK, qD, qN⟩ := q; exact ⟨q0, q1, qP, va_K.moved (u := U) (U := U.calling g mk a) (Vm.Alike.refl U.vm) qK, qD, va_tabs rfl (rfl : U.vm = (U.calling g mk a).vm) qN⟩, va_recv hKc hPc (ci := 1) (q0 := 0) rfl rfl, fun U hU hW => ⟨rfl, by rw [hU], by rw [hU]; exact hPc, va_K.moved hW.alike hKc, hDc.weaken (fun _ _ _ _ => trivial), va_Nw.warmM hW hN⟩⟩ rfl rfl hl.1 rfl (lv_room (Nat.le_of_ble_eq_true rfl)) dX1_makeRoomForUnknown_94 ⟨Nat.le_of_ble_eq_true rfl, Nat.le_of_ble_eq_true rfl⟩) hS (fun q _ h => hFc q h) hFc (fun u t H1 locs ht hvm hw hB hz1 hk1 hS => ?_)
        obtain ⟨L1, w1, d1, st1, tg1, hi1, mi1, go1⟩ := u
        obtain ⟨f1, hf1, hP1, hK1, hD1⟩ := hB
        rw [ht] at hP1
        obtain ⟨f_13, ef_13⟩ : ∃ z, z = f1 := ⟨_, rfl⟩
        rw [← ef_13] at hf1 hP1 hD1
        clear ef_13 f1
        replace hw := hw.symm
        simp only [ap_tu, Prod.mk.injEq] at hw
        obtain ⟨rfl, rfl, rfl, rfl, rfl, rfl, rfl, rfl⟩ := hw
        have hfx_14 := hf1
        obtain ⟨hP, hD⟩ := va_join (wr := []) (w1 := (cx q ca C ((ap_mk w tg x (ap_dr L 3, d, st, go)).1) f_13 w ((ap_mk w tg x (ap_dr L 3, d, st, go)).2.1) ((ap_mk w tg x (ap_dr L 3, d, st, go)).2.2.1) tg hi mi ((ap_mk w tg x (ap_dr L 3, d, st, go)).2.2.2))) hP hD [0, 1, 2, 3, 4, 5, 6, 7, 8, 9, 10, 11] [] rfl rfl (by decide) (by decide) hk1 hFc hP1 hD1
        generalize H1 = H at hP hS ⊢
        replace hP : va_P (dC, dI) vwCl (cx q ca C ((ap_mk w tg x (ap_dr L 3, d, st, go)).1) f_13 w ((ap_mk w tg x (ap_dr L 3, d, st, go)).2.1) ((ap_mk w tg x (ap_dr L 3, d, st, go)).2.2.1) tg hi mi ((ap_mk w tg x (ap_dr L 3, d, st, go)).2.2.2)) H := hP
        replace hD : va_D A (cx q ca C ((ap_mk w tg x (ap_dr L 3, d, st, go)).1) f_13 w ((ap_mk w tg x (ap_dr L 3, d, st, go)).2.1) ((ap_mk w tg x (ap_dr L 3, d, st, go)).2.2.1) tg hi mi ((ap_mk w tg x (ap_dr L 3, d, st, go)).2.2.2)) := hD
        refine lv_goto (tgt := 130) hx hb dX1_makeRoomForUnknown_97 (by decide) ?_
        exact W.vret hx hb hr (fun t ht hW => ⟨⟨ap_tu w tg hi mi (ap_mk w tg x (ap_dr L 3, d, st, go)), rfl, hfin9, f_13, hfx_14, by rw [ht]; exact hP, va_K.moved hW.alike hK, hD⟩, hS.F ht⟩) hS.2.2 dX1_makeRoomForUnknown_130
    · skip
      replace c_53 : ((L 1).length) = C := (nI_eq (a := (L 1).length) (b := C) (by omega) (by omega)).mp c_53
      refine lv_aload_n hx hb dX1_makeRoomForUnknown_56 rfl (lv_at hl 2 rfl) ?_
      refine lv_aload_n hx hb dX1_makeRoomForUnknown_57 rfl (lv_at hl 2 rfl) ?_
      refine va_get (D := (dC, dI)) (ci := 1) (v := .ref (q 1)) (C := RX1) (T := TX1) (N := 12) hx hb hts hwX1 hown hK hP 0 rfl rfl 1 (by decide) (hts (.fieldLink RX1 10 "ArcCache" "cameOnce" "LArcCache$AddressList;") (by decide +kernel)) (fun _ h9 => h9) rfl dX1_makeRoomForUnknown_58 ?_
      have hne9 : L 1 ≠ [] := ap_ne (by omega)
      have hx64 : vp_in (ap_old (L 1)) 64 := ap_old_in hI hne9
      have hfin9 : (ap_dr L 1, w, ap_cd d (ap_old (L 1)), ap_cs w d st (ap_old (L 1)), tg, hi, mi, go + 1) = ap_tu w tg hi mi (ap_un w C tg x (L, d, st, go)) := by rw [ap_un_A (S := (L, d, st, go)) c_39 c_53]; rfl
      have hPc := hP.sub (ws' := (cal (q 1) (q 5) (ca 1) ((L 1).length) (f 1))) [1, 2] rfl
      have hDc := hD.sub (ws' := (cal (q 1) (q 5) (ca 1) ((L 1).length) (f 1))) [1, 2] (by decide) rfl
      have hKc := hK.sub (tys' := (kal (ca 1))) [0] rfl
      have hFc := va_free (wc := (cal (q 1) (q 5) (ca 1) ((L 1).length) (f 1))) hD hS hA [1, 2] rfl
      refine va_calli (va_runV (As := []) (rest := [.ref (q 0)]) ⟨hx, hb, hml, hown, hts⟩ (c_A_oldest l dC dI (q 1) (q 5) (ca 1) (L 1) (f 1) H.size (Nat.le_trans z1 (by decide)) (hf 1 (by decide) (by decide))) (cwV 0 hts gX1_makeRoomForUnknown_X0_oldest rfl rfl rfl (by decide +kernel) ⟨Nat.le_of_ble_eq_true rfl, Nat.le_of_ble_eq_true rfl⟩) ⟨fun a U g mk q => by obtain ⟨q0, q1, qP, qK, qD⟩ := q; exact ⟨q0, q1, qP, va_K.moved (u := U) (U := U.calling g mk a) (Vm.Alike.refl U.vm) qK, qD⟩, va_recv hKc hPc (ci := 0) (q0 := 0) rfl rfl, fun U hU hW => ⟨rfl, by rw [hU], by rw [hU]; exact hPc, va_K.moved hW.alike hKc, hDc.weaken (fun _ _ _ _ => trivial)⟩⟩ rfl rfl hl.1 rfl (lv_room (Nat.le_of_ble_eq_true rfl)) dX1_makeRoomForUnknown_61 ⟨Nat.le_of_ble_eq_true rfl, Nat.le_of_ble_eq_true rfl⟩) hS (fun q _ h => hFc q h) hFc (fun r u t H1 locs ht hvm hw hB hz1 hk1 hS => ?_)
      obtain ⟨n1, f1⟩ := u
      obtain ⟨hP1, hK1, hD1⟩ := hB
      rw [ht] at hP1
      try dsimp only at hw hP1 hD1
      obtain ⟨hr9, hu⟩ := hw
      cases hu
      obtain ⟨hP, hD⟩ := va_join (wr := [(q 0, .inr (1, [.int (nI C), .ref (q 1), .ref (q 2), .ref (q 3), .ref (q 4), .ref (q 9), .ref (q 10), .ref (q 11), .int (nI tg), .int hi, .int mi, .int go])), (q 2, .inr (0, [.ref (q 6), .int (nI ((L 2).length))])), (q 6, .inl (ca 2, 64, .inl (f 2))), (q 3, .inr (0, [.ref (q 7), .int (nI ((L 3).length))])), (q 7, .inl (ca 3, 64, .inl (f 3))), (q 4, .inr (0, [.ref (q 8), .int (nI ((L 4).length))])), (q 8, .inl (ca 4, 64, .inl (f 4))), (q 9, .inl (ca 5, 64, .inl w)), (q 10, .inl (ca 6, 64, .inl d)), (q 11, .inl (ca 7, 64, .inl st))]) (w1 := (cal (q 1) (q 5) (ca 1) ((L 1).length) (f 1))) hP hD [1, 2] [0, 3, 4, 5, 6, 7, 8, 9, 10, 11] rfl rfl (by decide) (by decide) hk1 hFc hP1 hD1
      generalize H1 = H at hP hS ⊢
      replace hP := hP.sub (ws' := (cx q ca C L f w d st tg hi mi go)) [0, 10, 11, 1, 2, 3, 4, 5, 6, 7, 8, 9] rfl
      replace hD := hD.sub (ws' := (cx q ca C L f w d st tg hi mi go)) [0, 10, 11, 1, 2, 3, 4, 5, 6, 7, 8, 9] (by decide) rfl
      subst hr9
      have hPc := hP.sub (ws' := (cx q ca C L f w d st tg hi mi go)) [0, 1, 2, 3, 4, 5, 6, 7, 8, 9, 10, 11] rfl
      have hDc := hD.sub (ws' := (cx q ca C L f w d st tg hi mi go)) [0, 1, 2, 3, 4, 5, 6, 7, 8, 9, 10, 11] (by decide) rfl
      have hKc := hK.sub (tys' := (kx ca)) [0, 1, 2, 3, 4, 5, 6] rfl
      have hFc := va_free (wc := (cx q ca C L f w d st tg hi mi go)) hD hS hA [0, 1, 2, 3, 4, 5, 6, 7, 8, 9, 10, 11] rfl
      refine va_callv (va_runV (As := [.int (ap_old (L 1))]) (rest := []) ⟨hx, hb, hml, hown, hts⟩ (c_X_pageGoes l dC dI q ca C L f w d st tg hi mi go (ap_old (L 1)) H.size hf hx64) (cwV 1 hts gX1_makeRoomForUnknown_X1_pageGoes rfl rfl rfl (by decide +kernel) ⟨Nat.le_of_ble_eq_true rfl, Nat.le_of_ble_eq_true rfl⟩) ⟨fun a U g mk q => by obtain ⟨q0, q1, qP, qK, qD⟩ := q; exact ⟨q0, q1, qP, va_K.moved (u := U) (U := U.calling g mk a) (Vm.Alike.refl U.vm) qK, qD⟩, va_recv hKc hPc (ci := 1) (q0 := 0) rfl rfl, fun U hU hW => ⟨rfl, by rw [hU], by rw [hU]; exact hPc, va_K.moved hW.alike hKc, hDc.weaken (fun _ _ _ _ => trivial)⟩⟩ rfl rfl hl.1 rfl (lv_room (Nat.le_of_ble_eq_true rfl)) dX1_makeRoomForUnknown_64 ⟨Nat.le_of_ble_eq_true rfl, Nat.le_of_ble_eq_true rfl⟩) hS (fun q _ h => hFc q h) hFc (fun u t H1 locs ht hvm hw hB hz1 hk1 hS => ?_)
      obtain ⟨L1, w1, d1, st1, tg1, hi1, mi1, go1⟩ := u
      obtain ⟨f1, hf1, hP1, hK1, hD1⟩ := hB
      rw [ht] at hP1
      cases hw
      obtain ⟨f_15, ef_15⟩ : ∃ z, z = f1 := ⟨_, rfl⟩
      rw [← ef_15] at hf1 hP1 hD1
      clear ef_15 f1
      have hfx_16 := hf1
      obtain ⟨hP, hD⟩ := va_join (wr := []) (w1 := (cx q ca C L f_15 w (ap_cd d (ap_old (L 1))) (ap_cs w d st (ap_old (L 1))) tg hi mi (go + 1))) hP hD [0, 1, 2, 3, 4, 5, 6, 7, 8, 9, 10, 11] [] rfl rfl (by decide) (by decide) hk1 hFc hP1 hD1
      generalize H1 = H at hP hS ⊢
      replace hP : va_P (dC, dI) vwCl (cx q ca C L f_15 w (ap_cd d (ap_old (L 1))) (ap_cs w d st (ap_old (L 1))) tg hi mi (go + 1)) H := hP
      replace hD : va_D A (cx q ca C L f_15 w (ap_cd d (ap_old (L 1))) (ap_cs w d st (ap_old (L 1))) tg hi mi (go + 1)) := hD
      refine lv_aload_n hx hb dX1_makeRoomForUnknown_67 rfl (lv_at hl 2 rfl) ?_
      refine va_get (D := (dC, dI)) (ci := 1) (v := .ref (q 1)) (C := RX1) (T := TX1) (N := 12) hx hb hts hwX1 hown hK hP 0 rfl rfl 1 (by decide) (hts (.fieldLink RX1 10 "ArcCache" "cameOnce" "LArcCache$AddressList;") (by decide +kernel)) (fun _ h9 => h9) rfl dX1_makeRoomForUnknown_68 ?_
      have hPc := hP.sub (ws' := (cal (q 1) (q 5) (ca 1) ((L 1).length) (f_15 1))) [1, 2] rfl
      have hDc := hD.sub (ws' := (cal (q 1) (q 5) (ca 1) ((L 1).length) (f_15 1))) [1, 2] (by decide) rfl
      have hKc := hK.sub (tys' := (kal (ca 1))) [0] rfl
      have hFc := va_free (wc := (cal (q 1) (q 5) (ca 1) ((L 1).length) (f_15 1))) hD hS hA [1, 2] rfl
      refine va_callv (va_runV (As := []) (rest := []) ⟨hx, hb, hml, hown, hts⟩ (c_A_dropOldest l dC dI (q 1) (q 5) (ca 1) (L 1) (f_15 1) H.size (Nat.le_trans z1 (by decide)) (hfx_16 1 (by decide) (by decide)) (hI.1 1)) (cwV 0 hts gX1_makeRoomForUnknown_X0_dropOldest rfl rfl rfl (by decide +kernel) ⟨Nat.le_of_ble_eq_true rfl, Nat.le_of_ble_eq_true rfl⟩) ⟨fun a U g mk q => by obtain ⟨q0, q1, qP, qK, qD⟩ := q; exact ⟨q0, q1, qP, va_K.moved (u := U) (U := U.calling g mk a) (Vm.Alike.refl U.vm) qK, qD⟩, va_recv hKc hPc (ci := 0) (q0 := 0) rfl rfl, fun U hU hW => ⟨rfl, by rw [hU], by rw [hU]; exact hPc, va_K.moved hW.alike hKc, hDc.weaken (fun _ _ _ _ => trivial)⟩⟩ rfl rfl hl.1 rfl (lv_room (Nat.le_of_ble_eq_true rfl)) dX1_makeRoomForUnknown_71 ⟨Nat.le_of_ble_eq_true rfl, Nat.le_of_ble_eq_true rfl⟩) hS (fun q _ h => hFc q h) hFc (fun u t H1 locs ht hvm hw hB hz1 hk1 hS => ?_)
      obtain ⟨n1, f1⟩ := u
      obtain ⟨hP1, hK1, hD1⟩ := hB
      rw [ht] at hP1
      try dsimp only at hw hP1 hD1
      obtain ⟨hn9, hf9⟩ := hw
      subst hn9
      obtain ⟨f_17, ef_17⟩ : ∃ z, z = f1 := ⟨_, rfl⟩
      rw [← ef_17] at hf9 hP1 hD1
      clear ef_17 f1
      have hfx_18 := fx_up (k := 1) hfx_16 hf9
      obtain ⟨hP, hD⟩ := va_join (wr := [(q 0, .inr (1, [.int (nI C), .ref (q 1), .ref (q 2), .ref (q 3), .ref (q 4), .ref (q 9), .ref (q 10), .ref (q 11), .int (nI tg), .int hi, .int mi, .int (go + 1)])), (q 2, .inr (0, [.ref (q 6), .int (nI ((L 2).length))])), (q 6, .inl (ca 2, 64, .inl (f_15 2))), (q 3, .inr (0, [.ref (q 7), .int (nI ((L 3).length))])), (q 7, .inl (ca 3, 64, .inl (f_15 3))), (q 4, .inr (0, [.ref (q 8), .int (nI ((L 4).length))])), (q 8, .inl (ca 4, 64, .inl (f_15 4))), (q 9, .inl (ca 5, 64, .inl w)), (q 10, .inl (ca 6, 64, .inl (ap_cd d (ap_old (L 1))))), (q 11, .inl (ca 7, 64, .inl (ap_cs w d st (ap_old (L 1)))))]) (w1 := (cal (q 1) (q 5) (ca 1) ((ap_rm (ap_old (L 1)) (L 1)).length) f_17)) hP hD [1, 2] [0, 3, 4, 5, 6, 7, 8, 9, 10, 11] rfl rfl (by decide) (by decide) hk1 hFc hP1 hD1
      generalize H1 = H at hP hS ⊢
      replace hP := hP.sub (ws' := (cx q ca C (va_up L 1 (ap_rm (ap_old (L 1)) (L 1))) (va_up f_15 1 f_17) w (ap_cd d (ap_old (L 1))) (ap_cs w d st (ap_old (L 1))) tg hi mi (go + 1))) [0, 10, 11, 1, 2, 3, 4, 5, 6, 7, 8, 9] rfl
      replace hD := hD.sub (ws' := (cx q ca C (va_up L 1 (ap_rm (ap_old (L 1)) (L 1))) (va_up f_15 1 f_17) w (ap_cd d (ap_old (L 1))) (ap_cs w d st (ap_old (L 1))) tg hi mi (go + 1))) [0, 10, 11, 1, 2, 3, 4, 5, 6, 7, 8, 9] (by decide) rfl
      refine lv_goto (tgt := 130) hx hb dX1_makeRoomForUnknown_74 (by decide) ?_
      exact W.vret hx hb hr (fun t ht hW => ⟨⟨(ap_dr L 1, w, ap_cd d (ap_old (L 1)), ap_cs w d st (ap_old (L 1)), tg, hi, mi, go + 1), rfl, hfin9, va_up f_15 1 f_17, hfx_18, by rw [ht]; exact hP, va_K.moved hW.alike hK, hD⟩, hS.F ht⟩) hS.2.2 dX1_makeRoomForUnknown_130
