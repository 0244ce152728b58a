-- THE REFERENCE, fourth part (laid by wip/gen/mm4.py)
theorem am_at_no {L : Nat → List Int32} {x y : Int32} (h : x < nI 1 ∨ nI 4 < x) : -1 = ap_at L x y := by
  unfold ap_at
  rw [if_pos h]
theorem am_at_out {L : Nat → List Int32} {k : Nat} {y : Int32} (hk1 : 1 ≤ k) (hk4 : k ≤ 4) (h : y < 0 ∨ nI (L k).length ≤ y) : -1 = ap_at L (nI k) y := by
  unfold ap_at
  rw [if_neg (fun h9 => h9.elim (nI_nlt hk1 (by omega)) (nI_nlt hk4 (by omega))), nI_clamp (by omega)]
  unfold al_at
  rw [if_pos h]
theorem am_at_in {L : Nat → List Int32} {f n : Nat → Int32} (hfm : fm_ok f n L) {k j : Nat} (hk1 : 1 ≤ k) (hk4 : k ≤ 4) (hj : j < (L k).length) (hl : (L k).length ≤ 48) : f (64 * k + j) = ap_at L (nI k) (nI j) := by
  unfold ap_at
  rw [if_neg (fun h9 => h9.elim (nI_nlt hk1 (by omega)) (nI_nlt hk4 (by omega))), nI_clamp (by omega)]
  unfold al_at
  rw [if_neg (fun h => h.elim (nI_pos (by omega)) (nI_ge hj (by omega))), nI_clamp (by omega)]
  have h1 := (hfm k hk1 hk4).2 j hj
  rw [List.getD_eq_getElem?_getD, h1]
  rfl
theorem am_len {L : Nat → List Int32} {k : Nat} (hk1 : 1 ≤ k) (hk4 : k ≤ 4) : nI (L k).length = ap_len L (nI k) := by
  unfold ap_len
  rw [if_neg (fun h9 => h9.elim (nI_nlt hk1 (by omega)) (nI_nlt hk4 (by omega))), nI_clamp (by omega)]
theorem am_len_no {L : Nat → List Int32} {x : Int32} (h : x < nI 1 ∨ nI 4 < x) : -1 = ap_len L x := by
  unfold ap_len
  rw [if_pos h]
theorem am_k {x : Int32} (h1 : ¬ x < nI 1) (h2 : ¬ nI 4 < x) : ∃ k, 1 ≤ k ∧ k ≤ 4 ∧ x = nI k := by
  rcases al_l14 (x := x) (fun h => h.elim h1 h2) with h | h | h | h
  · exact ⟨1, by omega, by omega, h⟩
  · exact ⟨2, by omega, by omega, h⟩
  · exact ⟨3, by omega, by omega, h⟩
  · exact ⟨4, by omega, by omega, h⟩
set_option maxHeartbeats 4000000 in
set_option maxRecDepth 100000 in
theorem c_M_request (l : Launch) (dC : Nat → ClassId) (dI : Nat → Nat → Nat) (q : Nat → Nat) (ca : Nat → ClassId) (C : Nat) (f n w d st : Nat → Int32) (tg : Nat) (hi mi go : Int32) (L : Nat → List Int32) (x : Int32) (sz : Nat) (hfm : fm_ok f n L) (hok : ap_ok C tg L) (hx64 : vp_in x 64) : Met l yX2_request wsX2_request ({ frames := 5, cells := 0, slots := 0, locals := 116 }) (va_Pc [.ref (q 0), .int x] (fun U => U.heap.size = sz ∧ va_P (dC, dI) vwCl (cm q ca C f n w d st tg hi mi go) U.heap ∧ va_K (dC, dI) vwCl (km ca) U ∧ va_D (fun _ => True) (cm q ca C f n w d st tg hi mi go))) (va_Qv (fun (u : ap_U) => u = ap_rq C x (L, w, d, st, tg, hi, mi, go)) (at_M dC dI (va_A (cm q ca C f n w d st tg hi mi go) sz) q ca C) (va_A (cm q ca C f n w d st tg hi mi go) sz)) 0 0 (va_A (cm q ca C f n w d st tg hi mi go) sz) := by
  refine Met.ofW (cc := cX2_request) (maxL := 4) (ret := none) (by decide) rfl ?_
  intro p e s m args below meth c s₁ B hml hv
  obtain ⟨rfl, hsz, hP, hK, hD0⟩ := hv
  have hx := B.exec
  have hb := B.bytes
  have hr := B.returns
  have hts := atoms_spec (ws := wsX2_request) B.pre
  have hown : s.vm.findClass RX2 = some m.cls := findClass_of_methodNamed B.named
  have hlocks := B.notSynchronized
  have hwX2 : ∀ w ∈ u_ws RX2 TX2 10, w ∈ wsX2_request := by decide +kernel
  subst hsz
  have hD := hD0.self (sz := s.heap.size)
  generalize hAe : va_A (cm q ca C f n w d st tg hi mi go) s.heap.size = A at hD ⊢
  have hA : ∀ q : Nat, s.heap.size ≤ q → A q := fun q h => by rw [← hAe]; exact Or.inr h
  have hS0 : ∀ H, s.heap = H → va_S A s.heap H [] := fun H h => by subst h; exact va_S.rf
  have hl := lv_entry ([.ref (q 0), .int x]) (n := 4) (Nat.le_of_ble_eq_true rfl)
  rw [lg_entry_eq]
  generalize (lg_sl ([.ref (q 0), .int x]) ++ List.replicate (4 - (lg_sl ([.ref (q 0), .int x])).length) Slot.unset).toArray = ls at hl ⊢
  have hl : lv_has ls 4 [(0, .ref (q 0)), (1, .int x)] := hl
  generalize hHe : s.heap = H at hP ⊢
  have hS := hS0 H hHe
  obtain ⟨hI, hC1, hC, htg, hs1, hs2, hs3⟩ := id hok
  have hz : ap_tot L ≤ 48 := by omega
  have z1 : (L 1).length ≤ 48 := by unfold ap_tot at hz; omega
  have z2 : (L 2).length ≤ 48 := by unfold ap_tot at hz; omega
  have z3 : (L 3).length ≤ 48 := by unfold ap_tot at hz; omega
  have z4 : (L 4).length ≤ 48 := by unfold ap_tot at hz; omega
  have hwle9 := ap_wl_le L x
  refine lv_aload_n hx hb dX2_request_0 rfl (lv_at hl 0 rfl) ?_
  refine lv_iload_n hx hb dX2_request_1 rfl (lv_at hl 1 rfl) ?_
  have hPc := hP.sub (ws' := (cm q ca C f n w d st tg hi mi go)) [0, 1, 2, 3, 4, 5] rfl
  have hDc := hD.sub (ws' := (cm q ca C f n w d st tg hi mi go)) [0, 1, 2, 3, 4, 5] (by decide) rfl
  have hKc := hK.sub (tys' := (km ca)) [0, 1, 2, 3, 4] rfl
  have hFc := va_free (wc := (cm q ca C f n w d st tg hi mi go)) hD hS hA [0, 1, 2, 3, 4, 5] rfl
  refine va_calli (va_runV (As := [.int x]) (rest := []) ⟨hx, hb, hml, hown, hts⟩ (c_M_whichList l dC dI q ca C f n w d st tg hi mi go L x H.size hfm hI hz) (cwV 1 hts gX2_request_X2_whichList rfl rfl rfl (by decide +kernel) ⟨Nat.le_of_ble_eq_true rfl, Nat.le_of_ble_eq_true rfl⟩) ⟨fun a U g mk q => by obtain ⟨q0, q1, qP, qK, qD⟩ := q; exact ⟨q0, q1, qP, va_K.moved (u := U) (U := U.calling g mk a) (Vm.Alike.refl U.vm) qK, qD⟩, va_recv hKc hPc (ci := 2) (q0 := 0) rfl rfl, fun U hU hW => ⟨rfl, by rw [hU], by rw [hU]; exact hPc, va_K.moved hW.alike hKc, hDc.weaken (fun _ _ _ _ => trivial)⟩⟩ rfl rfl hl.1 rfl (lv_room (Nat.le_of_ble_eq_true rfl)) dX2_request_2 ⟨Nat.le_of_ble_eq_true rfl, Nat.le_of_ble_eq_true rfl⟩) hS (fun q _ h => hFc q h) hFc (fun r u t H1 locs ht hvm hw hB hz1 hk1 hS => ?_)
  obtain ⟨L1, w1, d1, st1, tg1, hi1, mi1, go1⟩ := u
  obtain ⟨f1, n1, hf1, hP1, hK1, hD1⟩ := hB
  rw [ht] at hP1
  obtain ⟨hr9, hw⟩ := hw
  cases hw
  obtain ⟨f_1, ef_1⟩ : ∃ z, z = f1 := ⟨_, rfl⟩
  rw [← ef_1] at hf1 hP1 hD1
  clear ef_1 f1
  obtain ⟨n_2, en_2⟩ : ∃ z, z = n1 := ⟨_, rfl⟩
  rw [← en_2] at hf1 hP1 hD1
  clear en_2 n1
  have hfm_3 := hf1
  obtain ⟨hP, hD⟩ := va_join (wr := []) (w1 := (cm q ca C f_1 n_2 w d st tg hi mi go)) hP hD [0, 1, 2, 3, 4, 5] [] rfl rfl (by decide) (by decide) hk1 hFc hP1 hD1
  generalize H1 = H at hP hS ⊢
  replace hP : va_P (dC, dI) vwCl (cm q ca C f_1 n_2 w d st tg hi mi go) H := hP
  replace hD : va_D A (cm q ca C f_1 n_2 w d st tg hi mi go) := hD
  subst hr9
  refine lv_istore_n (lv' := [(2, .int (nI (ap_wl L x))), (0, .ref (q 0)), (1, .int x)]) hx hb dX2_request_5 rfl hl (by decide) rfl (fun ls hl => ?_)
  refine lv_iload_n hx hb dX2_request_6 rfl (lv_at hl 0 rfl) ?_
  refine lv_iconst (v := nI 1) hx hb dX2_request_7 (by decide) ?_
  refine lv_icmp_eq (tgt := 16) hx hb dX2_request_8 (by decide) (fun c_8 => ?_) (fun c_8 => ?_)
  · skip
    replace c_8 : (ap_wl L x) = 1 := (nI_eq (a := ap_wl L x) (b := 1) (by omega) (by omega)).mp c_8
    have ek9 : ap_wl L x = 1 := by omega
    rw [ek9] at hl
    have hfin9 : (ap_mv L x 1 2, w, d, st, tg, hi + 1, mi, go) = ap_rq C x (L, w, d, st, tg, hi, mi, go) := by rw [ap_rq_hit (Or.inl ek9), ek9]
    refine lv_aload_n hx hb dX2_request_16 rfl (lv_at hl 1 rfl) ?_
    refine lv_dup hx hb dX2_request_17 rfl ?_
    refine va_get (D := (dC, dI)) (ci := 2) (v := .int hi) (C := RX2) (T := TX2) (N := 10) hx hb hts hwX2 hown hK hP 0 rfl rfl 7 (by decide) (hts (.fieldLink RX2 33 "ArcCacheModel" "hits" "I") (by decide +kernel)) (fun _ h9 => h9) rfl dX2_request_18 ?_
    refine lv_iconst (v := nI 1) hx hb dX2_request_21 (by decide) ?_
    refine lv_iadd hx hb dX2_request_22 ?_
    refine va_put (D := (dC, dI)) (ci := 2) (v := .int (hi + (nI 1))) (ty := .int) (C := RX2) (T := TX2) (N := 10) hx hb hts hwX2 tyX2 tyX2_ok nmX2 hown hK hP hD hS 0 rfl rfl 7 (by decide) (hts (.fieldLink RX2 33 "ArcCacheModel" "hits" "I") (by decide +kernel)) (fun _ h9 => h9) rfl (by decide +kernel) rfl rfl (Nat.le_of_ble_eq_true rfl) dX2_request_23 (fun H locs hP hD hS => ?_)
    replace hP : va_P (dC, dI) vwCl (cm q ca C f_1 n_2 w d st tg (hi + (nI 1)) mi go) H := hP
    replace hD : va_D A (cm q ca C f_1 n_2 w d st tg (hi + (nI 1)) mi go) := hD
    refine lv_aload_n hx hb dX2_request_26 rfl (lv_at hl 1 rfl) ?_
    refine lv_iload_n hx hb dX2_request_27 rfl (lv_at hl 2 rfl) ?_
    refine lv_iconst (v := nI 2) hx hb dX2_request_28 (by decide) ?_
    have hPc := hP.sub (ws' := (cm q ca C f_1 n_2 w d st tg (hi + (nI 1)) mi go)) [0, 1, 2, 3, 4, 5] rfl
    have hDc := hD.sub (ws' := (cm q ca C f_1 n_2 w d st tg (hi + (nI 1)) mi go)) [0, 1, 2, 3, 4, 5] (by decide) rfl
    have hKc := hK.sub (tys' := (km ca)) [0, 1, 2, 3, 4] rfl
    have hFc := va_free (wc := (cm q ca C f_1 n_2 w d st tg (hi + (nI 1)) mi go)) hD hS hA [0, 1, 2, 3, 4, 5] rfl
    refine va_callv (va_runV (As := [.int x, .int (nI 2)]) (rest := []) ⟨hx, hb, hml, hown, hts⟩ (c_M_come l dC dI q ca C f_1 n_2 w d st tg (hi + (nI 1)) mi go L x 2 H.size hfm_3 hI hz (by decide) (by decide)) (cwV 2 hts gX2_request_X2_come rfl rfl rfl (by decide +kernel) ⟨Nat.le_of_ble_eq_true rfl, Nat.le_of_ble_eq_true rfl⟩) ⟨fun a U g mk q => by obtain ⟨q0, q1, qP, qK, qD⟩ := q; exact ⟨q0, q1, qP, va_K.moved (u := U) (U := U.calling g mk a) (Vm.Alike.refl U.vm) qK, qD⟩, va_recv hKc hPc (ci := 2) (q0 := 0) rfl rfl, fun U hU hW => ⟨rfl, by rw [hU], by rw [hU]; exact hPc, va_K.moved hW.alike hKc, hDc.weaken (fun _ _ _ _ => trivial)⟩⟩ rfl rfl hl.1 rfl (lv_room (Nat.le_of_ble_eq_true rfl)) dX2_request_29 ⟨Nat.le_of_ble_eq_true rfl, Nat.le_of_ble_eq_true rfl⟩) hS (fun q _ h => hFc q h) hFc (fun u t H1 locs ht hvm hw hB hz1 hk1 hS => ?_)
    obtain ⟨L1, w1, d1, st1, tg1, hi1, mi1, go1⟩ := u
    obtain ⟨f1, n1, hf1, hP1, hK1, hD1⟩ := hB
    rw [ht] at hP1
    cases hw
    obtain ⟨f_4, ef_4⟩ : ∃ z, z = f1 := ⟨_, rfl⟩
    rw [← ef_4] at hf1 hP1 hD1
    clear ef_4 f1
    obtain ⟨n_5, en_5⟩ : ∃ z, z = n1 := ⟨_, rfl⟩
    rw [← en_5] at hf1 hP1 hD1
    clear en_5 n1
    have hfm_6 := hf1
    obtain ⟨hP, hD⟩ := va_join (wr := []) (w1 := (cm q ca C f_4 n_5 w d st tg (hi + (nI 1)) mi go)) hP hD [0, 1, 2, 3, 4, 5] [] rfl rfl (by decide) (by decide) hk1 hFc hP1 hD1
    generalize H1 = H at hP hS ⊢
    replace hP : va_P (dC, dI) vwCl (cm q ca C f_4 n_5 w d st tg (hi + (nI 1)) mi go) H := hP
    replace hD : va_D A (cm q ca C f_4 n_5 w d st tg (hi + (nI 1)) mi go) := hD
    have hfm_6d : fm_ok f_4 n_5 (ap_mv L x 1 2) := by rw [ap_leave_1 ek9 (by decide)] at hfm_6; exact hfm_6
    exact W.vret hx hb hr (fun t ht hW => ⟨⟨(ap_mv L x 1 2, w, d, st, tg, hi + 1, mi, go), rfl, hfin9, f_4, n_5, hfm_6d, by rw [ht]; exact hP, va_K.moved hW.alike hK, hD⟩, hS.F ht⟩) hS.2.2 dX2_request_32
  · skip
    replace c_8 : ¬ ((ap_wl L x) = 1) := fun h9 => c_8 ((nI_eq (a := ap_wl L x) (b := 1) (by omega) (by omega)).mpr h9)
    refine lv_iload_n hx hb dX2_request_11 rfl (lv_at hl 0 rfl) ?_
    refine lv_iconst (v := nI 2) hx hb dX2_request_12 (by decide) ?_
    refine lv_icmp_ne (tgt := 33) hx hb dX2_request_13 (by decide) (fun c_13 => ?_) (fun c_13 => ?_)
    · skip
      replace c_13 : ¬ ((ap_wl L x) = 2) := fun h9 => c_13 ((nI_eq (a := ap_wl L x) (b := 2) (by omega) (by omega)).mpr h9)
      refine lv_aload_n hx hb dX2_request_33 rfl (lv_at hl 1 rfl) ?_
      refine lv_dup hx hb dX2_request_34 rfl ?_
      refine va_get (D := (dC, dI)) (ci := 2) (v := .int mi) (C := RX2) (T := TX2) (N := 10) hx hb hts hwX2 hown hK hP 0 rfl rfl 8 (by decide) (hts (.fieldLink RX2 36 "ArcCacheModel" "misses" "I") (by decide +kernel)) (fun _ h9 => h9) rfl dX2_request_35 ?_
      refine lv_iconst (v := nI 1) hx hb dX2_request_38 (by decide) ?_
      refine lv_iadd hx hb dX2_request_39 ?_
      refine va_put (D := (dC, dI)) (ci := 2) (v := .int (mi + (nI 1))) (ty := .int) (C := RX2) (T := TX2) (N := 10) hx hb hts hwX2 tyX2 tyX2_ok nmX2 hown hK hP hD hS 0 rfl rfl 8 (by decide) (hts (.fieldLink RX2 36 "ArcCacheModel" "misses" "I") (by decide +kernel)) (fun _ h9 => h9) rfl (by decide +kernel) rfl rfl (Nat.le_of_ble_eq_true rfl) dX2_request_40 (fun H locs hP hD hS => ?_)
      replace hP : va_P (dC, dI) vwCl (cm q ca C f_1 n_2 w d st tg hi (mi + (nI 1)) go) H := hP
      replace hD : va_D A (cm q ca C f_1 n_2 w d st tg hi (mi + (nI 1)) go) := hD
      refine lv_iload_n hx hb dX2_request_43 rfl (lv_at hl 0 rfl) ?_
      refine lv_iconst (v := nI 3) hx hb dX2_request_44 (by decide) ?_
      refine lv_icmp_ne (tgt := 110) hx hb dX2_request_45 (by decide) (fun c_45 => ?_) (fun c_45 => ?_)
      · skip
        replace c_45 : ¬ ((ap_wl L x) = 3) := fun h9 => c_45 ((nI_eq (a := ap_wl L x) (b := 3) (by omega) (by omega)).mpr h9)
        refine lv_iload_n hx hb dX2_request_110 rfl (lv_at hl 0 rfl) ?_
        refine lv_iconst (v := nI 4) hx hb dX2_request_111 (by decide) ?_
        refine lv_icmp_ne (tgt := 167) hx hb dX2_request_112 (by decide) (fun c_112 => ?_) (fun c_112 => ?_)
        · skip
          replace c_112 : ¬ ((ap_wl L x) = 4) := fun h9 => c_112 ((nI_eq (a := ap_wl L x) (b := 4) (by omega) (by omega)).mpr h9)
          refine lv_iload_n hx hb dX2_request_167 rfl (lv_at hl 0 rfl) ?_
          refine lv_if_ne (tgt := 179) hx hb dX2_request_168 (by decide) (fun c_168 => ?_) (fun c_168 => ?_)
          · skip
            replace c_168 : ¬ ((ap_wl L x) = 0) := fun h9 => c_168 ((nI_eq (a := ap_wl L x) (b := 0) (by omega) (by omega)).mpr h9)
            exact absurd c_168 (by omega)
          · skip
            replace c_168 : (ap_wl L x) = 0 := (nI_eq (a := ap_wl L x) (b := 0) (by omega) (by omega)).mp c_168
            refine lv_aload_n hx hb dX2_request_171 rfl (lv_at hl 1 rfl) ?_
            refine lv_iload_n hx hb dX2_request_172 rfl (lv_at hl 2 rfl) ?_
            have ek9 : ap_wl L x = 0 := by omega
            rw [ek9] at hl
            have hfin9 : (va_up (ap_un w C tg x (L, d, st, go)).1 1 (x :: (ap_un w C tg x (L, d, st, go)).1 1), upd w x.toNatClampNeg ((ap_un w C tg x (L, d, st, go)).2.2.1 x.toNatClampNeg), upd (ap_un w C tg x (L, d, st, go)).2.1 x.toNatClampNeg 0, (ap_un w C tg x (L, d, st, go)).2.2.1, tg, hi, mi + 1, (ap_un w C tg x (L, d, st, go)).2.2.2) = ap_rq C x (L, w, d, st, tg, hi, mi, go) := by rw [ap_rq_new ek9]
            have hPc := hP.sub (ws' := (cm q ca C f_1 n_2 w d st tg hi (mi + (nI 1)) go)) [0, 1, 2, 3, 4, 5] rfl
            have hDc := hD.sub (ws' := (cm q ca C f_1 n_2 w d st tg hi (mi + (nI 1)) go)) [0, 1, 2, 3, 4, 5] (by decide) rfl
            have hKc := hK.sub (tys' := (km ca)) [0, 1, 2, 3, 4] rfl
            have hFc := va_free (wc := (cm q ca C f_1 n_2 w d st tg hi (mi + (nI 1)) go)) hD hS hA [0, 1, 2, 3, 4, 5] rfl
            refine va_callv (va_runV (As := [.int x]) (rest := []) ⟨hx, hb, hml, hown, hts⟩ (c_M_comeNew l dC dI q ca C f_1 n_2 w d st tg hi (mi + (nI 1)) go L x H.size hfm_3 hok ek9) (cwV 1 hts gX2_request_X2_comeNew rfl rfl rfl (by decide +kernel) ⟨Nat.le_of_ble_eq_true rfl, Nat.le_of_ble_eq_true rfl⟩) ⟨fun a U g mk q => by obtain ⟨q0, q1, qP, qK, qD⟩ := q; exact ⟨q0, q1, qP, va_K.moved (u := U) (U := U.calling g mk a) (Vm.Alike.refl U.vm) qK, qD⟩, va_recv hKc hPc (ci := 2) (q0 := 0) rfl rfl, fun U hU hW => ⟨rfl, by rw [hU], by rw [hU]; exact hPc, va_K.moved hW.alike hKc, hDc.weaken (fun _ _ _ _ => trivial)⟩⟩ rfl rfl hl.1 rfl (lv_room (Nat.le_of_ble_eq_true rfl)) dX2_request_173 ⟨Nat.le_of_ble_eq_true rfl, Nat.le_of_ble_eq_true rfl⟩) hS (fun q _ h => hFc q h) hFc (fun u t H1 locs ht hvm hw hB hz1 hk1 hS => ?_)
            obtain ⟨L1, w1, d1, st1, tg1, hi1, mi1, go1⟩ := u
            obtain ⟨f1, n1, hf1, hP1, hK1, hD1⟩ := hB
            rw [ht] at hP1
            cases hw
            obtain ⟨f_7, ef_7⟩ : ∃ z, z = f1 := ⟨_, rfl⟩
            rw [← ef_7] at hf1 hP1 hD1
            clear ef_7 f1
            obtain ⟨n_8, en_8⟩ : ∃ z, z = n1 := ⟨_, rfl⟩
            rw [← en_8] at hf1 hP1 hD1
            clear en_8 n1
            have hfm_9 := hf1
            obtain ⟨hP, hD⟩ := va_join (wr := []) (w1 := (cm q ca C f_7 n_8 w ((ap_un w C tg x (L, d, st, go)).2.1) ((ap_un w C tg x (L, d, st, go)).2.2.1) tg hi (mi + (nI 1)) ((ap_un w C tg x (L, d, st, go)).2.2.2))) hP hD [0, 1, 2, 3, 4, 5] [] rfl rfl (by decide) (by decide) hk1 hFc hP1 hD1
            generalize H1 = H at hP hS ⊢
            replace hP : va_P (dC, dI) vwCl (cm q ca C f_7 n_8 w ((ap_un w C tg x (L, d, st, go)).2.1) ((ap_un w C tg x (L, d, st, go)).2.2.1) tg hi (mi + (nI 1)) ((ap_un w C tg x (L, d, st, go)).2.2.2)) H := hP
            replace hD : va_D A (cm q ca C f_7 n_8 w ((ap_un w C tg x (L, d, st, go)).2.1) ((ap_un w C tg x (L, d, st, go)).2.2.1) tg hi (mi + (nI 1)) ((ap_un w C tg x (L, d, st, go)).2.2.2)) := hD
            refine lv_goto (tgt := 190) hx hb dX2_request_176 (by decide) ?_
            refine lv_aload_n hx hb dX2_request_190 rfl (lv_at hl 1 rfl) ?_
            refine va_get (D := (dC, dI)) (ci := 2) (v := .ref (q 4)) (C := RX2) (T := TX2) (N := 10) hx hb hts hwX2 hown hK hP 0 rfl rfl 4 (by decide) (hts (.fieldLink RX2 19 "ArcCacheModel" "words" "[I") (by decide +kernel)) (fun _ h9 => h9) rfl dX2_request_191 ?_
            refine lv_iload_n hx hb dX2_request_194 rfl (lv_at hl 2 rfl) ?_
            refine lv_aload_n hx hb dX2_request_195 rfl (lv_at hl 1 rfl) ?_
            refine va_get (D := (dC, dI)) (ci := 2) (v := .ref (q 3)) (C := RX2) (T := TX2) (N := 10) hx hb hts hwX2 hown hK hP 0 rfl rfl 3 (by decide) (hts (.fieldLink RX2 16 "ArcCacheModel" "store" "[I") (by decide +kernel)) (fun _ h9 => h9) rfl dX2_request_196 ?_
            refine lv_iload_n hx hb dX2_request_199 rfl (lv_at hl 2 rfl) ?_
            refine va_iald hx hb hK hP 3 2 rfl rfl hx64 dX2_request_200 ?_
            refine va_iast hx hb hK hP hD hS 4 3 rfl rfl hx64 dX2_request_201 (fun H locs hP hD hS => ?_)
            replace hP : va_P (dC, dI) vwCl (cm q ca C f_7 n_8 (upd w x.toNatClampNeg ((ap_un w C tg x (L, d, st, go)).2.2.1 x.toNatClampNeg)) ((ap_un w C tg x (L, d, st, go)).2.1) ((ap_un w C tg x (L, d, st, go)).2.2.1) tg hi (mi + (nI 1)) ((ap_un w C tg x (L, d, st, go)).2.2.2)) H := hP
            replace hD : va_D A (cm q ca C f_7 n_8 (upd w x.toNatClampNeg ((ap_un w C tg x (L, d, st, go)).2.2.1 x.toNatClampNeg)) ((ap_un w C tg x (L, d, st, go)).2.1) ((ap_un w C tg x (L, d, st, go)).2.2.1) tg hi (mi + (nI 1)) ((ap_un w C tg x (L, d, st, go)).2.2.2)) := hD
            refine lv_aload_n hx hb dX2_request_202 rfl (lv_at hl 1 rfl) ?_
            refine va_get (D := (dC, dI)) (ci := 2) (v := .ref (q 5)) (C := RX2) (T := TX2) (N := 10) hx hb hts hwX2 hown hK hP 0 rfl rfl 5 (by decide) (hts (.fieldLink RX2 22 "ArcCacheModel" "dirty" "[Z") (by decide +kernel)) (fun _ h9 => h9) rfl dX2_request_203 ?_
            refine lv_iload_n hx hb dX2_request_206 rfl (lv_at hl 2 rfl) ?_
            refine lv_iconst (v := nI 0) hx hb dX2_request_207 (by decide) ?_
            refine va_zast hx hb hK hP hD hS 5 4 rfl rfl hx64 dX2_request_208 (fun H locs hP hD hS => ?_)
            rw [ap_nar0] at hP hD
            replace hP : va_P (dC, dI) vwCl (cm q ca C f_7 n_8 (upd w x.toNatClampNeg ((ap_un w C tg x (L, d, st, go)).2.2.1 x.toNatClampNeg)) (upd ((ap_un w C tg x (L, d, st, go)).2.1) x.toNatClampNeg 0) ((ap_un w C tg x (L, d, st, go)).2.2.1) tg hi (mi + (nI 1)) ((ap_un w C tg x (L, d, st, go)).2.2.2)) H := hP
            replace hD : va_D A (cm q ca C f_7 n_8 (upd w x.toNatClampNeg ((ap_un w C tg x (L, d, st, go)).2.2.1 x.toNatClampNeg)) (upd ((ap_un w C tg x (L, d, st, go)).2.1) x.toNatClampNeg 0) ((ap_un w C tg x (L, d, st, go)).2.2.1) tg hi (mi + (nI 1)) ((ap_un w C tg x (L, d, st, go)).2.2.2)) := hD
            exact W.vret hx hb hr (fun t ht hW => ⟨⟨(va_up (ap_un w C tg x (L, d, st, go)).1 1 (x :: (ap_un w C tg x (L, d, st, go)).1 1), upd w x.toNatClampNeg ((ap_un w C tg x (L, d, st, go)).2.2.1 x.toNatClampNeg), upd (ap_un w C tg x (L, d, st, go)).2.1 x.toNatClampNeg 0, (ap_un w C tg x (L, d, st, go)).2.2.1, tg, hi, mi + 1, (ap_un w C tg x (L, d, st, go)).2.2.2), rfl, hfin9, f_7, n_8, hfm_9, by rw [ht]; exact hP, va_K.moved hW.alike hK, hD⟩, hS.F ht⟩) hS.2.2 dX2_request_209
        · skip
          replace c_112 : (ap_wl L x) = 4 := (nI_eq (a := ap_wl L x) (b := 4) (by omega) (by omega)).mp c_112
          have ek9 : ap_wl L x = 4 := by omega
          rw [ek9] at hl
          have hmm9 : x ∈ L 4 := by have h9 := ap_wl_mem (L := L) (a := x) (by omega); rw [ek9] at h9; exact h9
          have hpp9 : 0 < (L 4).length := List.length_pos_of_mem hmm9
          refine lv_aload_n hx hb dX2_request_115 rfl (lv_at hl 1 rfl) ?_
          refine va_get (D := (dC, dI)) (ci := 2) (v := .ref (q 2)) (C := RX2) (T := TX2) (N := 10) hx hb hts hwX2 hown hK hP 0 rfl rfl 2 (by decide) (hts (.fieldLink RX2 13 "ArcCacheModel" "many" "[I") (by decide +kernel)) (fun _ h9 => h9) rfl dX2_request_116 ?_
          refine lv_iconst (v := nI 3) hx hb dX2_request_119 (by decide) ?_
          refine va_iald hx hb hK hP 2 1 rfl rfl (vp_in_nI (show 3 < 5 by omega) (by decide)) dX2_request_120 ?_
          refine lv_topi (fun x_11 e_x_11 => ?_)
          have e_x_11 : x_11 = n_2 3 := by rw [e_x_11]; rw [nI_clamp (by omega)]
          subst e_x_11
          refine lv_topi (fun x_12 e_x_12 => ?_)
          have e_x_12 : x_12 = nI ((L 3).length) := by rw [e_x_12]; exact (hfm_3 3 (by decide) (by decide)).1
          subst e_x_12
          refine lv_aload_n hx hb dX2_request_121 rfl (lv_at hl 1 rfl) ?_
          refine va_get (D := (dC, dI)) (ci := 2) (v := .ref (q 2)) (C := RX2) (T := TX2) (N := 10) hx hb hts hwX2 hown hK hP 0 rfl rfl 2 (by decide) (hts (.fieldLink RX2 13 "ArcCacheModel" "many" "[I") (by decide +kernel)) (fun _ h9 => h9) rfl dX2_request_122 ?_
          refine lv_iconst (v := nI 4) hx hb dX2_request_125 (by decide) ?_
          refine va_iald hx hb hK hP 2 1 rfl rfl (vp_in_nI (show 4 < 5 by omega) (by decide)) dX2_request_126 ?_
          refine lv_topi (fun x_14 e_x_14 => ?_)
          have e_x_14 : x_14 = n_2 4 := by rw [e_x_14]; rw [nI_clamp (by omega)]
          subst e_x_14
          refine lv_topi (fun x_15 e_x_15 => ?_)
          have e_x_15 : x_15 = nI ((L 4).length) := by rw [e_x_15]; exact (hfm_3 4 (by decide) (by decide)).1
          subst e_x_15
          refine lv_idiv hx hb dX2_request_127 (nI_ne0 (by omega) (by omega)) ?_
          obtain ⟨q9, eq9⟩ : ∃ z, z = (L 3).length / (L 4).length := ⟨_, rfl⟩
          have hq9 : q9 ≤ 48 := by rw [eq9]; exact Nat.le_trans ap_divle (by omega)
          refine lv_topi (fun x_16 e_x_16 => ?_)
          have e_x_16 : x_16 = nI q9 := by rw [e_x_16]; rw [eq9]; exact pk_div (by omega) (by omega) (by omega)
          subst e_x_16
          refine lv_istore_n (lv' := [(3, .int (nI q9)), (2, .int (nI 4)), (0, .ref (q 0)), (1, .int x)]) hx hb dX2_request_128 rfl hl (by decide) rfl (fun ls hl => ?_)
          refine lv_aload_n hx hb dX2_request_129 rfl (lv_at hl 2 rfl) ?_
          refine lv_dup hx hb dX2_request_130 rfl ?_
          refine va_get (D := (dC, dI)) (ci := 2) (v := .int (nI tg)) (C := RX2) (T := TX2) (N := 10) hx hb hts hwX2 hown hK hP 0 rfl rfl 6 (by decide) (hts (.fieldLink RX2 30 "ArcCacheModel" "target" "I") (by decide +kernel)) (fun _ h9 => h9) rfl dX2_request_131 ?_
          refine lv_iload_n hx hb dX2_request_134 rfl (lv_at hl 0 rfl) ?_
          refine lv_iconst (v := nI 1) hx hb dX2_request_135 (by decide) ?_
          refine lv_icmp_ge (tgt := 143) hx hb dX2_request_136 (by decide) (fun c_136 => ?_) (fun c_136 => ?_)
          · skip
            replace c_136 : 1 ≤ q9 := (nI_leI (a := 1) (b := q9) (by omega) (by omega)).mp c_136
            refine lv_iload_n hx hb dX2_request_143 rfl (lv_at hl 0 rfl) ?_
            refine lv_isub hx hb dX2_request_144 ?_
            replace hP : va_P (dC, dI) vwCl (cmr q ca C f_1 n_2 w d st (nI tg) hi (mi + (nI 1)) go) H := hP
            replace hD : va_D A (cmr q ca C f_1 n_2 w d st (nI tg) hi (mi + (nI 1)) go) := hD
            refine va_put (D := (dC, dI)) (ci := 2) (v := .int ((nI tg) - (nI q9))) (ty := .int) (C := RX2) (T := TX2) (N := 10) hx hb hts hwX2 tyX2 tyX2_ok nmX2 hown hK hP hD hS 0 rfl rfl 6 (by decide) (hts (.fieldLink RX2 30 "ArcCacheModel" "target" "I") (by decide +kernel)) (fun _ h9 => h9) rfl (by decide +kernel) rfl rfl (Nat.le_of_ble_eq_true rfl) dX2_request_145 (fun H locs hP hD hS => ?_)
            replace hP : va_P (dC, dI) vwCl (cmr q ca C f_1 n_2 w d st ((nI tg) - (nI q9)) hi (mi + (nI 1)) go) H := hP
            replace hD : va_D A (cmr q ca C f_1 n_2 w d st ((nI tg) - (nI q9)) hi (mi + (nI 1)) go) := hD
            refine lv_aload_n hx hb dX2_request_148 rfl (lv_at hl 2 rfl) ?_
            refine lv_aload_n hx hb dX2_request_149 rfl (lv_at hl 2 rfl) ?_
            refine va_get (D := (dC, dI)) (ci := 2) (v := .int ((nI tg) - (nI q9))) (C := RX2) (T := TX2) (N := 10) hx hb hts hwX2 hown hK hP 0 rfl rfl 6 (by decide) (hts (.fieldLink RX2 30 "ArcCacheModel" "target" "I") (by decide +kernel)) (fun _ h9 => h9) rfl dX2_request_150 ?_
            refine lv_if_ge (tgt := 160) hx hb dX2_request_153 (by decide) (fun c_153 => ?_) (fun c_153 => ?_)
            · skip
              refine lv_aload_n hx hb dX2_request_160 rfl (lv_at hl 2 rfl) ?_
              refine va_get (D := (dC, dI)) (ci := 2) (v := .int ((nI tg) - (nI q9))) (C := RX2) (T := TX2) (N := 10) hx hb hts hwX2 hown hK hP 0 rfl rfl 6 (by decide) (hts (.fieldLink RX2 30 "ArcCacheModel" "target" "I") (by decide +kernel)) (fun _ h9 => h9) rfl dX2_request_161 ?_
              have hge9 := ap_ge0 (by omega) (by omega) c_153
              refine lv_topi (fun x_17 e_x_17 => ?_)
              have e_x_17 : x_17 = nI (ap_tg L C tg 4) := by rw [e_x_17]; rw [pk_sub hge9]; exact congrArg nI (by show _ = tg - max 1 ((L 3).length / (L 4).length); rw [← eq9]; omega)
              subst e_x_17
              refine va_put (D := (dC, dI)) (ci := 2) (v := .int (nI (ap_tg L C tg 4))) (ty := .int) (C := RX2) (T := TX2) (N := 10) hx hb hts hwX2 tyX2 tyX2_ok nmX2 hown hK hP hD hS 0 rfl rfl 6 (by decide) (hts (.fieldLink RX2 30 "ArcCacheModel" "target" "I") (by decide +kernel)) (fun _ h9 => h9) rfl (by decide +kernel) rfl rfl (Nat.le_of_ble_eq_true rfl) dX2_request_164 (fun H locs hP hD hS => ?_)
              replace hP : va_P (dC, dI) vwCl (cmr q ca C f_1 n_2 w d st (nI (ap_tg L C tg 4)) hi (mi + (nI 1)) go) H := hP
              replace hD : va_D A (cmr q ca C f_1 n_2 w d st (nI (ap_tg L C tg 4)) hi (mi + (nI 1)) go) := hD
              replace hP : va_P (dC, dI) vwCl (cm q ca C f_1 n_2 w d st (ap_tg L C tg 4) hi (mi + (nI 1)) go) H := hP
              replace hD : va_D A (cm q ca C f_1 n_2 w d st (ap_tg L C tg 4) hi (mi + (nI 1)) go) := hD
              refine lv_iload_n hx hb dX2_request_167 rfl (lv_at hl 1 rfl) ?_
              refine lv_if_ne (tgt := 179) hx hb dX2_request_168 (by decide) (fun c_168 => ?_) (fun c_168 => ?_)
              · skip
                replace c_168 : ¬ (4 = 0) := fun h9 => c_168 ((nI_eq (a := 4) (b := 0) (by omega) (by omega)).mpr h9)
                refine lv_aload_n hx hb dX2_request_179 rfl (lv_at hl 2 rfl) ?_
                refine lv_iload_n hx hb dX2_request_180 rfl (lv_at hl 3 rfl) ?_
                have hfin9 : (ap_mv (ap_mk w (ap_tg L C tg 4) x (L, d, st, go)).1 x 4 2, upd w x.toNatClampNeg ((ap_mk w (ap_tg L C tg 4) x (L, d, st, go)).2.2.1 x.toNatClampNeg), upd (ap_mk w (ap_tg L C tg 4) x (L, d, st, go)).2.1 x.toNatClampNeg 0, (ap_mk w (ap_tg L C tg 4) x (L, d, st, go)).2.2.1, ap_tg L C tg 4, hi, mi + 1, (ap_mk w (ap_tg L C tg 4) x (L, d, st, go)).2.2.2) = ap_rq C x (L, w, d, st, tg, hi, mi, go) := by rw [ap_rq_old ek9 (Or.inr rfl)]
                have htgle9 : ap_tg L C tg 4 ≤ C := ap_tg_le htg
                have hmkf9 := ap_mk_facts (w := w) (t := ap_tg L C tg 4) (a := x) (S := (L, d, st, go)) hI
                have hmki9 : ap_inv (ap_mk w (ap_tg L C tg 4) x (L, d, st, go)).1 := hmkf9.1
                have hmkz9 : ap_tot (ap_mk w (ap_tg L C tg 4) x (L, d, st, go)).1 ≤ 48 := by rw [ap_tot_mk (S := (L, d, st, go)) hI]; exact hz
                have hmkw9 : ap_wl (ap_mk w (ap_tg L C tg 4) x (L, d, st, go)).1 x = 4 := (hmkf9.2.2.2.2 x (by dsimp only; omega) (by dsimp only; omega)).trans ek9
                have hPc := hP.sub (ws' := (cm q ca C f_1 n_2 w d st (ap_tg L C tg 4) hi (mi + (nI 1)) go)) [0, 1, 2, 3, 4, 5] rfl
                have hDc := hD.sub (ws' := (cm q ca C f_1 n_2 w d st (ap_tg L C tg 4) hi (mi + (nI 1)) go)) [0, 1, 2, 3, 4, 5] (by decide) rfl
                have hKc := hK.sub (tys' := (km ca)) [0, 1, 2, 3, 4] rfl
                have hFc := va_free (wc := (cm q ca C f_1 n_2 w d st (ap_tg L C tg 4) hi (mi + (nI 1)) go)) hD hS hA [0, 1, 2, 3, 4, 5] rfl
                refine va_callv (va_runV (As := [.int x]) (rest := []) ⟨hx, hb, hml, hown, hts⟩ (c_M_makeRoom l dC dI q ca C f_1 n_2 w d st (ap_tg L C tg 4) hi (mi + (nI 1)) go L x H.size hfm_3 hI hz (by omega)) (cwV 1 hts gX2_request_X2_makeRoom rfl rfl rfl (by decide +kernel) ⟨Nat.le_of_ble_eq_true rfl, Nat.le_of_ble_eq_true rfl⟩) ⟨fun a U g mk q => by obtain ⟨q0, q1, qP, qK, qD⟩ := q; exact ⟨q0, q1, qP, va_K.moved (u := U) (U := U.calling g mk a) (Vm.Alike.refl U.vm) qK, qD⟩, va_recv hKc hPc (ci := 2) (q0 := 0) rfl rfl, fun U hU hW => ⟨rfl, by rw [hU], by rw [hU]; exact hPc, va_K.moved hW.alike hKc, hDc.weaken (fun _ _ _ _ => trivial)⟩⟩ rfl rfl hl.1 rfl (lv_room (Nat.le_of_ble_eq_true rfl)) dX2_request_181 ⟨Nat.le_of_ble_eq_true rfl, Nat.le_of_ble_eq_true rfl⟩) hS (fun q _ h => hFc q h) hFc (fun u t H1 locs ht hvm hw hB hz1 hk1 hS => ?_)
                obtain ⟨L1, w1, d1, st1, tg1, hi1, mi1, go1⟩ := u
                obtain ⟨f1, n1, hf1, hP1, hK1, hD1⟩ := hB
                rw [ht] at hP1
                obtain ⟨f_18, ef_18⟩ : ∃ z, z = f1 := ⟨_, rfl⟩
                rw [← ef_18] at hf1 hP1 hD1
                clear ef_18 f1
                obtain ⟨n_19, en_19⟩ : ∃ z, z = n1 := ⟨_, rfl⟩
                rw [← en_19] at hf1 hP1 hD1
                clear en_19 n1
                have hfm_20 := hf1
                replace hw := hw.symm
                simp only [ap_tu, Prod.mk.injEq] at hw
                obtain ⟨rfl, rfl, rfl, rfl, rfl, rfl, rfl, rfl⟩ := hw
                obtain ⟨hP, hD⟩ := va_join (wr := []) (w1 := (cm q ca C f_18 n_19 w ((ap_mk w (ap_tg L C tg 4) x (L, d, st, go)).2.1) ((ap_mk w (ap_tg L C tg 4) x (L, d, st, go)).2.2.1) (ap_tg L C tg 4) hi (mi + (nI 1)) ((ap_mk w (ap_tg L C tg 4) x (L, d, st, go)).2.2.2))) hP hD [0, 1, 2, 3, 4, 5] [] rfl rfl (by decide) (by decide) hk1 hFc hP1 hD1
                generalize H1 = H at hP hS ⊢
                replace hP : va_P (dC, dI) vwCl (cm q ca C f_18 n_19 w ((ap_mk w (ap_tg L C tg 4) x (L, d, st, go)).2.1) ((ap_mk w (ap_tg L C tg 4) x (L, d, st, go)).2.2.1) (ap_tg L C tg 4) hi (mi + (nI 1)) ((ap_mk w (ap_tg L C tg 4) x (L, d, st, go)).2.2.2)) H := hP
                replace hD : va_D A (cm q ca C f_18 n_19 w ((ap_mk w (ap_tg L C tg 4) x (L, d, st, go)).2.1) ((ap_mk w (ap_tg L C tg 4) x (L, d, st, go)).2.2.1) (ap_tg L C tg 4) hi (mi + (nI 1)) ((ap_mk w (ap_tg L C tg 4) x (L, d, st, go)).2.2.2)) := hD
                refine lv_aload_n hx hb dX2_request_184 rfl (lv_at hl 2 rfl) ?_
                refine lv_iload_n hx hb dX2_request_185 rfl (lv_at hl 3 rfl) ?_
                refine lv_iconst (v := nI 2) hx hb dX2_request_186 (by decide) ?_
                have hPc := hP.sub (ws' := (cm q ca C f_18 n_19 w ((ap_mk w (ap_tg L C tg 4) x (L, d, st, go)).2.1) ((ap_mk w (ap_tg L C tg 4) x (L, d, st, go)).2.2.1) (ap_tg L C tg 4) hi (mi + (nI 1)) ((ap_mk w (ap_tg L C tg 4) x (L, d, st, go)).2.2.2))) [0, 1, 2, 3, 4, 5] rfl
                have hDc := hD.sub (ws' := (cm q ca C f_18 n_19 w ((ap_mk w (ap_tg L C tg 4) x (L, d, st, go)).2.1) ((ap_mk w (ap_tg L C tg 4) x (L, d, st, go)).2.2.1) (ap_tg L C tg 4) hi (mi + (nI 1)) ((ap_mk w (ap_tg L C tg 4) x (L, d, st, go)).2.2.2))) [0, 1, 2, 3, 4, 5] (by decide) rfl
                have hKc := hK.sub (tys' := (km ca)) [0, 1, 2, 3, 4] rfl
                have hFc := va_free (wc := (cm q ca C f_18 n_19 w ((ap_mk w (ap_tg L C tg 4) x (L, d, st, go)).2.1) ((ap_mk w (ap_tg L C tg 4) x (L, d, st, go)).2.2.1) (ap_tg L C tg 4) hi (mi + (nI 1)) ((ap_mk w (ap_tg L C tg 4) x (L, d, st, go)).2.2.2))) hD hS hA [0, 1, 2, 3, 4, 5] rfl
                refine va_callv (va_runV (As := [.int x, .int (nI 2)]) (rest := []) ⟨hx, hb, hml, hown, hts⟩ (c_M_come l dC dI q ca C f_18 n_19 w ((ap_mk w (ap_tg L C tg 4) x (L, d, st, go)).2.1) ((ap_mk w (ap_tg L C tg 4) x (L, d, st, go)).2.2.1) (ap_tg L C tg 4) hi (mi + (nI 1)) ((ap_mk w (ap_tg L C tg 4) x (L, d, st, go)).2.2.2) ((ap_mk w (ap_tg L C tg 4) x (L, d, st, go)).1) x 2 H.size hfm_20 hmki9 hmkz9 (by decide) (by decide)) (cwV 2 hts gX2_request_X2_come rfl rfl rfl (by decide +kernel) ⟨Nat.le_of_ble_eq_true rfl, Nat.le_of_ble_eq_true rfl⟩) ⟨fun a U g mk q => by obtain ⟨q0, q1, qP, qK, qD⟩ := q; exact ⟨q0, q1, qP, va_K.moved (u := U) (U := U.calling g mk a) (Vm.Alike.refl U.vm) qK, qD⟩, va_recv hKc hPc (ci := 2) (q0 := 0) rfl rfl, fun U hU hW => ⟨rfl, by rw [hU], by rw [hU]; exact hPc, va_K.moved hW.alike hKc, hDc.weaken (fun _ _ _ _ => trivial)⟩⟩ rfl rfl hl.1 rfl (lv_room (Nat.le_of_ble_eq_true rfl)) dX2_request_187 ⟨Nat.le_of_ble_eq_true rfl, Nat.le_of_ble_eq_true rfl⟩) hS (fun q _ h => hFc q h) hFc (fun u t H1 locs ht hvm hw hB hz1 hk1 hS => ?_)
                obtain ⟨L1, w1, d1, st1, tg1, hi1, mi1, go1⟩ := u
                obtain ⟨f1, n1, hf1, hP1, hK1, hD1⟩ := hB
                rw [ht] at hP1
                cases hw
                obtain ⟨f_21, ef_21⟩ : ∃ z, z = f1 := ⟨_, rfl⟩
                rw [← ef_21] at hf1 hP1 hD1
                clear ef_21 f1
                obtain ⟨n_22, en_22⟩ : ∃ z, z = n1 := ⟨_, rfl⟩
                rw [← en_22] at hf1 hP1 hD1
                clear en_22 n1
                have hfm_23 := hf1
                obtain ⟨hP, hD⟩ := va_join (wr := []) (w1 := (cm q ca C f_21 n_22 w ((ap_mk w (ap_tg L C tg 4) x (L, d, st, go)).2.1) ((ap_mk w (ap_tg L C tg 4) x (L, d, st, go)).2.2.1) (ap_tg L C tg 4) hi (mi + (nI 1)) ((ap_mk w (ap_tg L C tg 4) x (L, d, st, go)).2.2.2))) hP hD [0, 1, 2, 3, 4, 5] [] rfl rfl (by decide) (by decide) hk1 hFc hP1 hD1
                generalize H1 = H at hP hS ⊢
                replace hP : va_P (dC, dI) vwCl (cm q ca C f_21 n_22 w ((ap_mk w (ap_tg L C tg 4) x (L, d, st, go)).2.1) ((ap_mk w (ap_tg L C tg 4) x (L, d, st, go)).2.2.1) (ap_tg L C tg 4) hi (mi + (nI 1)) ((ap_mk w (ap_tg L C tg 4) x (L, d, st, go)).2.2.2)) H := hP
                replace hD : va_D A (cm q ca C f_21 n_22 w ((ap_mk w (ap_tg L C tg 4) x (L, d, st, go)).2.1) ((ap_mk w (ap_tg L C tg 4) x (L, d, st, go)).2.2.1) (ap_tg L C tg 4) hi (mi + (nI 1)) ((ap_mk w (ap_tg L C tg 4) x (L, d, st, go)).2.2.2)) := hD
                have hfm_23d : fm_ok f_21 n_22 (ap_mv ((ap_mk w (ap_tg L C tg 4) x (L, d, st, go)).1) x 4 2) := by rw [ap_leave_1 hmkw9 (by decide)] at hfm_23; exact hfm_23
                refine lv_aload_n hx hb dX2_request_190 rfl (lv_at hl 2 rfl) ?_
                refine va_get (D := (dC, dI)) (ci := 2) (v := .ref (q 4)) (C := RX2) (T := TX2) (N := 10) hx hb hts hwX2 hown hK hP 0 rfl rfl 4 (by decide) (hts (.fieldLink RX2 19 "ArcCacheModel" "words" "[I") (by decide +kernel)) (fun _ h9 => h9) rfl dX2_request_191 ?_
                refine lv_iload_n hx hb dX2_request_194 rfl (lv_at hl 3 rfl) ?_
                refine lv_aload_n hx hb dX2_request_195 rfl (lv_at hl 2 rfl) ?_
                refine va_get (D := (dC, dI)) (ci := 2) (v := .ref (q 3)) (C := RX2) (T := TX2) (N := 10) hx hb hts hwX2 hown hK hP 0 rfl rfl 3 (by decide) (hts (.fieldLink RX2 16 "ArcCacheModel" "store" "[I") (by decide +kernel)) (fun _ h9 => h9) rfl dX2_request_196 ?_
                refine lv_iload_n hx hb dX2_request_199 rfl (lv_at hl 3 rfl) ?_
                refine va_iald hx hb hK hP 3 2 rfl rfl hx64 dX2_request_200 ?_
                refine va_iast hx hb hK hP hD hS 4 3 rfl rfl hx64 dX2_request_201 (fun H locs hP hD hS => ?_)
                replace hP : va_P (dC, dI) vwCl (cm q ca C f_21 n_22 (upd w x.toNatClampNeg ((ap_mk w (ap_tg L C tg 4) x (L, d, st, go)).2.2.1 x.toNatClampNeg)) ((ap_mk w (ap_tg L C tg 4) x (L, d, st, go)).2.1) ((ap_mk w (ap_tg L C tg 4) x (L, d, st, go)).2.2.1) (ap_tg L C tg 4) hi (mi + (nI 1)) ((ap_mk w (ap_tg L C tg 4) x (L, d, st, go)).2.2.2)) H := hP
                replace hD : va_D A (cm q ca C f_21 n_22 (upd w x.toNatClampNeg ((ap_mk w (ap_tg L C tg 4) x (L, d, st, go)).2.2.1 x.toNatClampNeg)) ((ap_mk w (ap_tg L C tg 4) x (L, d, st, go)).2.1) ((ap_mk w (ap_tg L C tg 4) x (L, d, st, go)).2.2.1) (ap_tg L C tg 4) hi (mi + (nI 1)) ((ap_mk w (ap_tg L C tg 4) x (L, d, st, go)).2.2.2)) := hD
                refine lv_aload_n hx hb dX2_request_202 rfl (lv_at hl 2 rfl) ?_
                refine va_get (D := (dC, dI)) (ci := 2) (v := .ref (q 5)) (C := RX2) (T := TX2) (N := 10) hx hb hts hwX2 hown hK hP 0 rfl rfl 5 (by decide) (hts (.fieldLink RX2 22 "ArcCacheModel" "dirty" "[Z") (by decide +kernel)) (fun _ h9 => h9) rfl dX2_request_203 ?_
                refine lv_iload_n hx hb dX2_request_206 rfl (lv_at hl 3 rfl) ?_
                refine lv_iconst (v := nI 0) hx hb dX2_request_207 (by decide) ?_
                refine va_zast hx hb hK hP hD hS 5 4 rfl rfl hx64 dX2_request_208 (fun H locs hP hD hS => ?_)
                rw [ap_nar0] at hP hD
                replace hP : va_P (dC, dI) vwCl (cm q ca C f_21 n_22 (upd w x.toNatClampNeg ((ap_mk w (ap_tg L C tg 4) x (L, d, st, go)).2.2.1 x.toNatClampNeg)) (upd ((ap_mk w (ap_tg L C tg 4) x (L, d, st, go)).2.1) x.toNatClampNeg 0) ((ap_mk w (ap_tg L C tg 4) x (L, d, st, go)).2.2.1) (ap_tg L C tg 4) hi (mi + (nI 1)) ((ap_mk w (ap_tg L C tg 4) x (L, d, st, go)).2.2.2)) H := hP
                replace hD : va_D A (cm q ca C f_21 n_22 (upd w x.toNatClampNeg ((ap_mk w (ap_tg L C tg 4) x (L, d, st, go)).2.2.1 x.toNatClampNeg)) (upd ((ap_mk w (ap_tg L C tg 4) x (L, d, st, go)).2.1) x.toNatClampNeg 0) ((ap_mk w (ap_tg L C tg 4) x (L, d, st, go)).2.2.1) (ap_tg L C tg 4) hi (mi + (nI 1)) ((ap_mk w (ap_tg L C tg 4) x (L, d, st, go)).2.2.2)) := hD
                exact W.vret hx hb hr (fun t ht hW => ⟨⟨(ap_mv (ap_mk w (ap_tg L C tg 4) x (L, d, st, go)).1 x 4 2, upd w x.toNatClampNeg ((ap_mk w (ap_tg L C tg 4) x (L, d, st, go)).2.2.1 x.toNatClampNeg), upd (ap_mk w (ap_tg L C tg 4) x (L, d, st, go)).2.1 x.toNatClampNeg 0, (ap_mk w (ap_tg L C tg 4) x (L, d, st, go)).2.2.1, ap_tg L C tg 4, hi, mi + 1, (ap_mk w (ap_tg L C tg 4) x (L, d, st, go)).2.2.2), rfl, hfin9, f_21, n_22, hfm_23d, by rw [ht]; exact hP, va_K.moved hW.alike hK, hD⟩, hS.F ht⟩) hS.2.2 dX2_request_209
              · skip
                replace c_168 : 4 = 0 := (nI_eq (a := 4) (b := 0) (by omega) (by omega)).mp c_168
                exact absurd c_168 (by omega)
            · skip
              refine lv_iconst (v := nI 0) hx hb dX2_request_156 (by decide) ?_
              refine lv_goto (tgt := 164) hx hb dX2_request_157 (by decide) ?_
              have hlt9 := ap_lt0 (by omega) (by omega) c_153
              refine lv_topi (fun x_24 e_x_24 => ?_)
              have e_x_24 : x_24 = nI (ap_tg L C tg 4) := by rw [e_x_24]; exact congrArg nI (by show _ = tg - max 1 ((L 3).length / (L 4).length); rw [← eq9]; omega)
              subst e_x_24
              refine va_put (D := (dC, dI)) (ci := 2) (v := .int (nI (ap_tg L C tg 4))) (ty := .int) (C := RX2) (T := TX2) (N := 10) hx hb hts hwX2 tyX2 tyX2_ok nmX2 hown hK hP hD hS 0 rfl rfl 6 (by decide) (hts (.fieldLink RX2 30 "ArcCacheModel" "target" "I") (by decide +kernel)) (fun _ h9 => h9) rfl (by decide +kernel) rfl rfl (Nat.le_of_ble_eq_true rfl) dX2_request_164 (fun H locs hP hD hS => ?_)
              replace hP : va_P (dC, dI) vwCl (cmr q ca C f_1 n_2 w d st (nI (ap_tg L C tg 4)) hi (mi + (nI 1)) go) H := hP
              replace hD : va_D A (cmr q ca C f_1 n_2 w d st (nI (ap_tg L C tg 4)) hi (mi + (nI 1)) go) := hD
              replace hP : va_P (dC, dI) vwCl (cm q ca C f_1 n_2 w d st (ap_tg L C tg 4) hi (mi + (nI 1)) go) H := hP
              replace hD : va_D A (cm q ca C f_1 n_2 w d st (ap_tg L C tg 4) hi (mi + (nI 1)) go) := hD
              refine lv_iload_n hx hb dX2_request_167 rfl (lv_at hl 1 rfl) ?_
              refine lv_if_ne (tgt := 179) hx hb dX2_request_168 (by decide) (fun c_168 => ?_) (fun c_168 => ?_)
              · skip
                replace c_168 : ¬ (4 = 0) := fun h9 => c_168 ((nI_eq (a := 4) (b := 0) (by omega) (by omega)).mpr h9)
                refine lv_aload_n hx hb dX2_request_179 rfl (lv_at hl 2 rfl) ?_
                refine lv_iload_n hx hb dX2_request_180 rfl (lv_at hl 3 rfl) ?_
                have hfin9 : (ap_mv (ap_mk w (ap_tg L C tg 4) x (L, d, st, go)).1 x 4 2, upd w x.toNatClampNeg ((ap_mk w (ap_tg L C tg 4) x (L, d, st, go)).2.2.1 x.toNatClampNeg), upd (ap_mk w (ap_tg L C tg 4) x (L, d, st, go)).2.1 x.toNatClampNeg 0, (ap_mk w (ap_tg L C tg 4) x (L, d, st, go)).2.2.1, ap_tg L C tg 4, hi, mi + 1, (ap_mk w (ap_tg L C tg 4) x (L, d, st, go)).2.2.2) = ap_rq C x (L, w, d, st, tg, hi, mi, go) := by rw [ap_rq_old ek9 (Or.inr rfl)]
                have htgle9 : ap_tg L C tg 4 ≤ C := ap_tg_le htg
                have hmkf9 := ap_mk_facts (w := w) (t := ap_tg L C tg 4) (a := x) (S := (L, d, st, go)) hI
                have hmki9 : ap_inv (ap_mk w (ap_tg L C tg 4) x (L, d, st, go)).1 := hmkf9.1
                have hmkz9 : ap_tot (ap_mk w (ap_tg L C tg 4) x (L, d, st, go)).1 ≤ 48 := by rw [ap_tot_mk (S := (L, d, st, go)) hI]; exact hz
                have hmkw9 : ap_wl (ap_mk w (ap_tg L C tg 4) x (L, d, st, go)).1 x = 4 := (hmkf9.2.2.2.2 x (by dsimp only; omega) (by dsimp only; omega)).trans ek9
                have hPc := hP.sub (ws' := (cm q ca C f_1 n_2 w d st (ap_tg L C tg 4) hi (mi + (nI 1)) go)) [0, 1, 2, 3, 4, 5] rfl
                have hDc := hD.sub (ws' := (cm q ca C f_1 n_2 w d st (ap_tg L C tg 4) hi (mi + (nI 1)) go)) [0, 1, 2, 3, 4, 5] (by decide) rfl
                have hKc := hK.sub (tys' := (km ca)) [0, 1, 2, 3, 4] rfl
                have hFc := va_free (wc := (cm q ca C f_1 n_2 w d st (ap_tg L C tg 4) hi (mi + (nI 1)) go)) hD hS hA [0, 1, 2, 3, 4, 5] rfl
                refine va_callv (va_runV (As := [.int x]) (rest := []) ⟨hx, hb, hml, hown, hts⟩ (c_M_makeRoom l dC dI q ca C f_1 n_2 w d st (ap_tg L C tg 4) hi (mi + (nI 1)) go L x H.size hfm_3 hI hz (by omega)) (cwV 1 hts gX2_request_X2_makeRoom rfl rfl rfl (by decide +kernel) ⟨Nat.le_of_ble_eq_true rfl, Nat.le_of_ble_eq_true rfl⟩) ⟨fun a U g mk q => by obtain ⟨q0, q1, qP, qK, qD⟩ := q; exact ⟨q0, q1, qP, va_K.moved (u := U) (U := U.calling g mk a) (Vm.Alike.refl U.vm) qK, qD⟩, va_recv hKc hPc (ci := 2) (q0 := 0) rfl rfl, fun U hU hW => ⟨rfl, by rw [hU], by rw [hU]; exact hPc, va_K.moved hW.alike hKc, hDc.weaken (fun _ _ _ _ => trivial)⟩⟩ rfl rfl hl.1 rfl (lv_room (Nat.le_of_ble_eq_true rfl)) dX2_request_181 ⟨Nat.le_of_ble_eq_true rfl, Nat.le_of_ble_eq_true rfl⟩) hS (fun q _ h => hFc q h) hFc (fun u t H1 locs ht hvm hw hB hz1 hk1 hS => ?_)
                obtain ⟨L1, w1, d1, st1, tg1, hi1, mi1, go1⟩ := u
                obtain ⟨f1, n1, hf1, hP1, hK1, hD1⟩ := hB
                rw [ht] at hP1
                obtain ⟨f_25, ef_25⟩ : ∃ z, z = f1 := ⟨_, rfl⟩
                rw [← ef_25] at hf1 hP1 hD1
                clear ef_25 f1
                obtain ⟨n_26, en_26⟩ : ∃ z, z = n1 := ⟨_, rfl⟩
                rw [← en_26] at hf1 hP1 hD1
                clear en_26 n1
                have hfm_27 := hf1
                replace hw := hw.symm
                simp only [ap_tu, Prod.mk.injEq] at hw
                obtain ⟨rfl, rfl, rfl, rfl, rfl, rfl, rfl, rfl⟩ := hw
                obtain ⟨hP, hD⟩ := va_join (wr := []) (w1 := (cm q ca C f_25 n_26 w ((ap_mk w (ap_tg L C tg 4) x (L, d, st, go)).2.1) ((ap_mk w (ap_tg L C tg 4) x (L, d, st, go)).2.2.1) (ap_tg L C tg 4) hi (mi + (nI 1)) ((ap_mk w (ap_tg L C tg 4) x (L, d, st, go)).2.2.2))) hP hD [0, 1, 2, 3, 4, 5] [] rfl rfl (by decide) (by decide) hk1 hFc hP1 hD1
                generalize H1 = H at hP hS ⊢
                replace hP : va_P (dC, dI) vwCl (cm q ca C f_25 n_26 w ((ap_mk w (ap_tg L C tg 4) x (L, d, st, go)).2.1) ((ap_mk w (ap_tg L C tg 4) x (L, d, st, go)).2.2.1) (ap_tg L C tg 4) hi (mi + (nI 1)) ((ap_mk w (ap_tg L C tg 4) x (L, d, st, go)).2.2.2)) H := hP
                replace hD : va_D A (cm q ca C f_25 n_26 w ((ap_mk w (ap_tg L C tg 4) x (L, d, st, go)).2.1) ((ap_mk w (ap_tg L C tg 4) x (L, d, st, go)).2.2.1) (ap_tg L C tg 4) hi (mi + (nI 1)) ((ap_mk w (ap_tg L C tg 4) x (L, d, st, go)).2.2.2)) := hD
                refine lv_aload_n hx hb dX2_request_184 rfl (lv_at hl 2 rfl) ?_
                refine lv_iload_n hx hb dX2_request_185 rfl (lv_at hl 3 rfl) ?_
                refine lv_iconst (v := nI 2) hx hb dX2_request_186 (by decide) ?_
                have hPc := hP.sub (ws' := (cm q ca C f_25 n_26 w ((ap_mk w (ap_tg L C tg 4) x (L, d, st, go)).2.1) ((ap_mk w (ap_tg L C tg 4) x (L, d, st, go)).2.2.1) (ap_tg L C tg 4) hi (mi + (nI 1)) ((ap_mk w (ap_tg L C tg 4) x (L, d, st, go)).2.2.2))) [0, 1, 2, 3, 4, 5] rfl
                have hDc := hD.sub (ws' := (cm q ca C f_25 n_26 w ((ap_mk w (ap_tg L C tg 4) x (L, d, st, go)).2.1) ((ap_mk w (ap_tg L C tg 4) x (L, d, st, go)).2.2.1) (ap_tg L C tg 4) hi (mi + (nI 1)) ((ap_mk w (ap_tg L C tg 4) x (L, d, st, go)).2.2.2))) [0, 1, 2, 3, 4, 5] (by decide) rfl
                have hKc := hK.sub (tys' := (km ca)) [0, 1, 2, 3, 4] rfl
                have hFc := va_free (wc := (cm q ca C f_25 n_26 w ((ap_mk w (ap_tg L C tg 4) x (L, d, st, go)).2.1) ((ap_mk w (ap_tg L C tg 4) x (L, d, st, go)).2.2.1) (ap_tg L C tg 4) hi (mi + (nI 1)) ((ap_mk w (ap_tg L C tg 4) x (L, d, st, go)).2.2.2))) hD hS hA [0, 1, 2, 3, 4, 5] rfl
                refine va_callv (va_runV (As := [.int x, .int (nI 2)]) (rest := []) ⟨hx, hb, hml, hown, hts⟩ (c_M_come l dC dI q ca C f_25 n_26 w ((ap_mk w (ap_tg L C tg 4) x (L, d, st, go)).2.1) ((ap_mk w (ap_tg L C tg 4) x (L, d, st, go)).2.2.1) (ap_tg L C tg 4) hi (mi + (nI 1)) ((ap_mk w (ap_tg L C tg 4) x (L, d, st, go)).2.2.2) ((ap_mk w (ap_tg L C tg 4) x (L, d, st, go)).1) x 2 H.size hfm_27 hmki9 hmkz9 (by decide) (by decide)) (cwV 2 hts gX2_request_X2_come rfl rfl rfl (by decide +kernel) ⟨Nat.le_of_ble_eq_true rfl, Nat.le_of_ble_eq_true rfl⟩) ⟨fun a U g mk q => by obtain ⟨q0, q1, qP, qK, qD⟩ := q; exact ⟨q0, q1, qP, va_K.moved (u := U) (U := U.calling g mk a) (Vm.Alike.refl U.vm) qK, qD⟩, va_recv hKc hPc (ci := 2) (q0 := 0) rfl rfl, fun U hU hW => ⟨rfl, by rw [hU], by rw [hU]; exact hPc, va_K.moved hW.alike hKc, hDc.weaken (fun _ _ _ _ => trivial)⟩⟩ rfl rfl hl.1 rfl (lv_room (Nat.le_of_ble_eq_true rfl)) dX2_request_187 ⟨Nat.le_of_ble_eq_true rfl, Nat.le_of_ble_eq_true rfl⟩) hS (fun q _ h => hFc q h) hFc (fun u t H1 locs ht hvm hw hB hz1 hk1 hS => ?_)
                obtain ⟨L1, w1, d1, st1, tg1, hi1, mi1, go1⟩ := u
                obtain ⟨f1, n1, hf1, hP1, hK1, hD1⟩ := hB
                rw [ht] at hP1
                cases hw
                obtain ⟨f_28, ef_28⟩ : ∃ z, z = f1 := ⟨_, rfl⟩
                rw [← ef_28] at hf1 hP1 hD1
                clear ef_28 f1
                obtain ⟨n_29, en_29⟩ : ∃ z, z = n1 := ⟨_, rfl⟩
                rw [← en_29] at hf1 hP1 hD1
                clear en_29 n1
                have hfm_30 := hf1
                obtain ⟨hP, hD⟩ := va_join (wr := []) (w1 := (cm q ca C f_28 n_29 w ((ap_mk w (ap_tg L C tg 4) x (L, d, st, go)).2.1) ((ap_mk w (ap_tg L C tg 4) x (L, d, st, go)).2.2.1) (ap_tg L C tg 4) hi (mi + (nI 1)) ((ap_mk w (ap_tg L C tg 4) x (L, d, st, go)).2.2.2))) hP hD [0, 1, 2, 3, 4, 5] [] rfl rfl (by decide) (by decide) hk1 hFc hP1 hD1
                generalize H1 = H at hP hS ⊢
                replace hP : va_P (dC, dI) vwCl (cm q ca C f_28 n_29 w ((ap_mk w (ap_tg L C tg 4) x (L, d, st, go)).2.1) ((ap_mk w (ap_tg L C tg 4) x (L, d, st, go)).2.2.1) (ap_tg L C tg 4) hi (mi + (nI 1)) ((ap_mk w (ap_tg L C tg 4) x (L, d, st, go)).2.2.2)) H := hP
                replace hD : va_D A (cm q ca C f_28 n_29 w ((ap_mk w (ap_tg L C tg 4) x (L, d, st, go)).2.1) ((ap_mk w (ap_tg L C tg 4) x (L, d, st, go)).2.2.1) (ap_tg L C tg 4) hi (mi + (nI 1)) ((ap_mk w (ap_tg L C tg 4) x (L, d, st, go)).2.2.2)) := hD
                have hfm_30d : fm_ok f_28 n_29 (ap_mv ((ap_mk w (ap_tg L C tg 4) x (L, d, st, go)).1) x 4 2) := by rw [ap_leave_1 hmkw9 (by decide)] at hfm_30; exact hfm_30
                refine lv_aload_n hx hb dX2_request_190 rfl (lv_at hl 2 rfl) ?_
                refine va_get (D := (dC, dI)) (ci := 2) (v := .ref (q 4)) (C := RX2) (T := TX2) (N := 10) hx hb hts hwX2 hown hK hP 0 rfl rfl 4 (by decide) (hts (.fieldLink RX2 19 "ArcCacheModel" "words" "[I") (by decide +kernel)) (fun _ h9 => h9) rfl dX2_request_191 ?_
                refine lv_iload_n hx hb dX2_request_194 rfl (lv_at hl 3 rfl) ?_
                refine lv_aload_n hx hb dX2_request_195 rfl (lv_at hl 2 rfl) ?_
                refine va_get (D := (dC, dI)) (ci := 2) (v := .ref (q 3)) (C := RX2) (T := TX2) (N := 10) hx hb hts hwX2 hown hK hP 0 rfl rfl 3 (by decide) (hts (.fieldLink RX2 16 "ArcCacheModel" "store" "[I") (by decide +kernel)) (fun _ h9 => h9) rfl dX2_request_196 ?_
                refine lv_iload_n hx hb dX2_request_199 rfl (lv_at hl 3 rfl) ?_
                refine va_iald hx hb hK hP 3 2 rfl rfl hx64 dX2_request_200 ?_
                refine va_iast hx hb hK hP hD hS 4 3 rfl rfl hx64 dX2_request_201 (fun H locs hP hD hS => ?_)
                replace hP : va_P (dC, dI) vwCl (cm q ca C f_28 n_29 (upd w x.toNatClampNeg ((ap_mk w (ap_tg L C tg 4) x (L, d, st, go)).2.2.1 x.toNatClampNeg)) ((ap_mk w (ap_tg L C tg 4) x (L, d, st, go)).2.1) ((ap_mk w (ap_tg L C tg 4) x (L, d, st, go)).2.2.1) (ap_tg L C tg 4) hi (mi + (nI 1)) ((ap_mk w (ap_tg L C tg 4) x (L, d, st, go)).2.2.2)) H := hP
                replace hD : va_D A (cm q ca C f_28 n_29 (upd w x.toNatClampNeg ((ap_mk w (ap_tg L C tg 4) x (L, d, st, go)).2.2.1 x.toNatClampNeg)) ((ap_mk w (ap_tg L C tg 4) x (L, d, st, go)).2.1) ((ap_mk w (ap_tg L C tg 4) x (L, d, st, go)).2.2.1) (ap_tg L C tg 4) hi (mi + (nI 1)) ((ap_mk w (ap_tg L C tg 4) x (L, d, st, go)).2.2.2)) := hD
                refine lv_aload_n hx hb dX2_request_202 rfl (lv_at hl 2 rfl) ?_
                refine va_get (D := (dC, dI)) (ci := 2) (v := .ref (q 5)) (C := RX2) (T := TX2) (N := 10) hx hb hts hwX2 hown hK hP 0 rfl rfl 5 (by decide) (hts (.fieldLink RX2 22 "ArcCacheModel" "dirty" "[Z") (by decide +kernel)) (fun _ h9 => h9) rfl dX2_request_203 ?_
                refine lv_iload_n hx hb dX2_request_206 rfl (lv_at hl 3 rfl) ?_
                refine lv_iconst (v := nI 0) hx hb dX2_request_207 (by decide) ?_
                refine va_zast hx hb hK hP hD hS 5 4 rfl rfl hx64 dX2_request_208 (fun H locs hP hD hS => ?_)
                rw [ap_nar0] at hP hD
                replace hP : va_P (dC, dI) vwCl (cm q ca C f_28 n_29 (upd w x.toNatClampNeg ((ap_mk w (ap_tg L C tg 4) x (L, d, st, go)).2.2.1 x.toNatClampNeg)) (upd ((ap_mk w (ap_tg L C tg 4) x (L, d, st, go)).2.1) x.toNatClampNeg 0) ((ap_mk w (ap_tg L C tg 4) x (L, d, st, go)).2.2.1) (ap_tg L C tg 4) hi (mi + (nI 1)) ((ap_mk w (ap_tg L C tg 4) x (L, d, st, go)).2.2.2)) H := hP
                replace hD : va_D A (cm q ca C f_28 n_29 (upd w x.toNatClampNeg ((ap_mk w (ap_tg L C tg 4) x (L, d, st, go)).2.2.1 x.toNatClampNeg)) (upd ((ap_mk w (ap_tg L C tg 4) x (L, d, st, go)).2.1) x.toNatClampNeg 0) ((ap_mk w (ap_tg L C tg 4) x (L, d, st, go)).2.2.1) (ap_tg L C tg 4) hi (mi + (nI 1)) ((ap_mk w (ap_tg L C tg 4) x (L, d, st, go)).2.2.2)) := hD
                exact W.vret hx hb hr (fun t ht hW => ⟨⟨(ap_mv (ap_mk w (ap_tg L C tg 4) x (L, d, st, go)).1 x 4 2, upd w x.toNatClampNeg ((ap_mk w (ap_tg L C tg 4) x (L, d, st, go)).2.2.1 x.toNatClampNeg), upd (ap_mk w (ap_tg L C tg 4) x (L, d, st, go)).2.1 x.toNatClampNeg 0, (ap_mk w (ap_tg L C tg 4) x (L, d, st, go)).2.2.1, ap_tg L C tg 4, hi, mi + 1, (ap_mk w (ap_tg L C tg 4) x (L, d, st, go)).2.2.2), rfl, hfin9, f_28, n_29, hfm_30d, by rw [ht]; exact hP, va_K.moved hW.alike hK, hD⟩, hS.F ht⟩) hS.2.2 dX2_request_209
              · skip
                replace c_168 : 4 = 0 := (nI_eq (a := 4) (b := 0) (by omega) (by omega)).mp c_168
                exact absurd c_168 (by omega)
          · skip
            replace c_136 : ¬ (1 ≤ q9) := fun h9 => c_136 ((nI_leI (a := 1) (b := q9) (by omega) (by omega)).mpr h9)
            refine lv_iconst (v := nI 1) hx hb dX2_request_139 (by decide) ?_
            refine lv_goto (tgt := 144) hx hb dX2_request_140 (by decide) ?_
            refine lv_isub hx hb dX2_request_144 ?_
            replace hP : va_P (dC, dI) vwCl (cmr q ca C f_1 n_2 w d st (nI tg) hi (mi + (nI 1)) go) H := hP
            replace hD : va_D A (cmr q ca C f_1 n_2 w d st (nI tg) hi (mi + (nI 1)) go) := hD
            refine va_put (D := (dC, dI)) (ci := 2) (v := .int ((nI tg) - (nI 1))) (ty := .int) (C := RX2) (T := TX2) (N := 10) hx hb hts hwX2 tyX2 tyX2_ok nmX2 hown hK hP hD hS 0 rfl rfl 6 (by decide) (hts (.fieldLink RX2 30 "ArcCacheModel" "target" "I") (by decide +kernel)) (fun _ h9 => h9) rfl (by decide +kernel) rfl rfl (Nat.le_of_ble_eq_true rfl) dX2_request_145 (fun H locs hP hD hS => ?_)
            replace hP : va_P (dC, dI) vwCl (cmr q ca C f_1 n_2 w d st ((nI tg) - (nI 1)) hi (mi + (nI 1)) go) H := hP
            replace hD : va_D A (cmr q ca C f_1 n_2 w d st ((nI tg) - (nI 1)) hi (mi + (nI 1)) go) := hD
            refine lv_aload_n hx hb dX2_request_148 rfl (lv_at hl 2 rfl) ?_
            refine lv_aload_n hx hb dX2_request_149 rfl (lv_at hl 2 rfl) ?_
            refine va_get (D := (dC, dI)) (ci := 2) (v := .int ((nI tg) - (nI 1))) (C := RX2) (T := TX2) (N := 10) hx hb hts hwX2 hown hK hP 0 rfl rfl 6 (by decide) (hts (.fieldLink RX2 30 "ArcCacheModel" "target" "I") (by decide +kernel)) (fun _ h9 => h9) rfl dX2_request_150 ?_
            refine lv_if_ge (tgt := 160) hx hb dX2_request_153 (by decide) (fun c_153 => ?_) (fun c_153 => ?_)
            · skip
              refine lv_aload_n hx hb dX2_request_160 rfl (lv_at hl 2 rfl) ?_
              refine va_get (D := (dC, dI)) (ci := 2) (v := .int ((nI tg) - (nI 1))) (C := RX2) (T := TX2) (N := 10) hx hb hts hwX2 hown hK hP 0 rfl rfl 6 (by decide) (hts (.fieldLink RX2 30 "ArcCacheModel" "target" "I") (by decide +kernel)) (fun _ h9 => h9) rfl dX2_request_161 ?_
              have hge9 := ap_ge0 (by omega) (by omega) c_153
              refine lv_topi (fun x_31 e_x_31 => ?_)
              have e_x_31 : x_31 = nI (ap_tg L C tg 4) := by rw [e_x_31]; rw [pk_sub hge9]; exact congrArg nI (by show _ = tg - max 1 ((L 3).length / (L 4).length); rw [← eq9]; omega)
              subst e_x_31
              refine va_put (D := (dC, dI)) (ci := 2) (v := .int (nI (ap_tg L C tg 4))) (ty := .int) (C := RX2) (T := TX2) (N := 10) hx hb hts hwX2 tyX2 tyX2_ok nmX2 hown hK hP hD hS 0 rfl rfl 6 (by decide) (hts (.fieldLink RX2 30 "ArcCacheModel" "target" "I") (by decide +kernel)) (fun _ h9 => h9) rfl (by decide +kernel) rfl rfl (Nat.le_of_ble_eq_true rfl) dX2_request_164 (fun H locs hP hD hS => ?_)
              replace hP : va_P (dC, dI) vwCl (cmr q ca C f_1 n_2 w d st (nI (ap_tg L C tg 4)) hi (mi + (nI 1)) go) H := hP
              replace hD : va_D A (cmr q ca C f_1 n_2 w d st (nI (ap_tg L C tg 4)) hi (mi + (nI 1)) go) := hD
              replace hP : va_P (dC, dI) vwCl (cm q ca C f_1 n_2 w d st (ap_tg L C tg 4) hi (mi + (nI 1)) go) H := hP
              replace hD : va_D A (cm q ca C f_1 n_2 w d st (ap_tg L C tg 4) hi (mi + (nI 1)) go) := hD
              refine lv_iload_n hx hb dX2_request_167 rfl (lv_at hl 1 rfl) ?_
              refine lv_if_ne (tgt := 179) hx hb dX2_request_168 (by decide) (fun c_168 => ?_) (fun c_168 => ?_)
              · skip
                replace c_168 : ¬ (4 = 0) := fun h9 => c_168 ((nI_eq (a := 4) (b := 0) (by omega) (by omega)).mpr h9)
                refine lv_aload_n hx hb dX2_request_179 rfl (lv_at hl 2 rfl) ?_
                refine lv_iload_n hx hb dX2_request_180 rfl (lv_at hl 3 rfl) ?_
                have hfin9 : (ap_mv (ap_mk w (ap_tg L C tg 4) x (L, d, st, go)).1 x 4 2, upd w x.toNatClampNeg ((ap_mk w (ap_tg L C tg 4) x (L, d, st, go)).2.2.1 x.toNatClampNeg), upd (ap_mk w (ap_tg L C tg 4) x (L, d, st, go)).2.1 x.toNatClampNeg 0, (ap_mk w (ap_tg L C tg 4) x (L, d, st, go)).2.2.1, ap_tg L C tg 4, hi, mi + 1, (ap_mk w (ap_tg L C tg 4) x (L, d, st, go)).2.2.2) = ap_rq C x (L, w, d, st, tg, hi, mi, go) := by rw [ap_rq_old ek9 (Or.inr rfl)]
                have htgle9 : ap_tg L C tg 4 ≤ C := ap_tg_le htg
                have hmkf9 := ap_mk_facts (w := w) (t := ap_tg L C tg 4) (a := x) (S := (L, d, st, go)) hI
                have hmki9 : ap_inv (ap_mk w (ap_tg L C tg 4) x (L, d, st, go)).1 := hmkf9.1
                have hmkz9 : ap_tot (ap_mk w (ap_tg L C tg 4) x (L, d, st, go)).1 ≤ 48 := by rw [ap_tot_mk (S := (L, d, st, go)) hI]; exact hz
                have hmkw9 : ap_wl (ap_mk w (ap_tg L C tg 4) x (L, d, st, go)).1 x = 4 := (hmkf9.2.2.2.2 x (by dsimp only; omega) (by dsimp only; omega)).trans ek9
                have hPc := hP.sub (ws' := (cm q ca C f_1 n_2 w d st (ap_tg L C tg 4) hi (mi + (nI 1)) go)) [0, 1, 2, 3, 4, 5] rfl
                have hDc := hD.sub (ws' := (cm q ca C f_1 n_2 w d st (ap_tg L C tg 4) hi (mi + (nI 1)) go)) [0, 1, 2, 3, 4, 5] (by decide) rfl
                have hKc := hK.sub (tys' := (km ca)) [0, 1, 2, 3, 4] rfl
                have hFc := va_free (wc := (cm q ca C f_1 n_2 w d st (ap_tg L C tg 4) hi (mi + (nI 1)) go)) hD hS hA [0, 1, 2, 3, 4, 5] rfl
                refine va_callv (va_runV (As := [.int x]) (rest := []) ⟨hx, hb, hml, hown, hts⟩ (c_M_makeRoom l dC dI q ca C f_1 n_2 w d st (ap_tg L C tg 4) hi (mi + (nI 1)) go L x H.size hfm_3 hI hz (by omega)) (cwV 1 hts gX2_request_X2_makeRoom rfl rfl rfl (by decide +kernel) ⟨Nat.le_of_ble_eq_true rfl, Nat.le_of_ble_eq_true rfl⟩) ⟨fun a U g mk q => by obtain ⟨q0, q1, qP, qK, qD⟩ := q; exact ⟨q0, q1, qP, va_K.moved (u := U) (U := U.calling g mk a) (Vm.Alike.refl U.vm) qK, qD⟩, va_recv hKc hPc (ci := 2) (q0 := 0) rfl rfl, fun U hU hW => ⟨rfl, by rw [hU], by rw [hU]; exact hPc, va_K.moved hW.alike hKc, hDc.weaken (fun _ _ _ _ => trivial)⟩⟩ rfl rfl hl.1 rfl (lv_room (Nat.le_of_ble_eq_true rfl)) dX2_request_181 ⟨Nat.le_of_ble_eq_true rfl, Nat.le_of_ble_eq_true rfl⟩) hS (fun q _ h => hFc q h) hFc (fun u t H1 locs ht hvm hw hB hz1 hk1 hS => ?_)
                obtain ⟨L1, w1, d1, st1, tg1, hi1, mi1, go1⟩ := u
                obtain ⟨f1, n1, hf1, hP1, hK1, hD1⟩ := hB
                rw [ht] at hP1
                obtain ⟨f_32, ef_32⟩ : ∃ z, z = f1 := ⟨_, rfl⟩
                rw [← ef_32] at hf1 hP1 hD1
                clear ef_32 f1
                obtain ⟨n_33, en_33⟩ : ∃ z, z = n1 := ⟨_, rfl⟩
                rw [← en_33] at hf1 hP1 hD1
                clear en_33 n1
                have hfm_34 := hf1
                replace hw := hw.symm
                simp only [ap_tu, Prod.mk.injEq] at hw
                obtain ⟨rfl, rfl, rfl, rfl, rfl, rfl, rfl, rfl⟩ := hw
                obtain ⟨hP, hD⟩ := va_join (wr := []) (w1 := (cm q ca C f_32 n_33 w ((ap_mk w (ap_tg L C tg 4) x (L, d, st, go)).2.1) ((ap_mk w (ap_tg L C tg 4) x (L, d, st, go)).2.2.1) (ap_tg L C tg 4) hi (mi + (nI 1)) ((ap_mk w (ap_tg L C tg 4) x (L, d, st, go)).2.2.2))) hP hD [0, 1, 2, 3, 4, 5] [] rfl rfl (by decide) (by decide) hk1 hFc hP1 hD1
                generalize H1 = H at hP hS ⊢
                replace hP : va_P (dC, dI) vwCl (cm q ca C f_32 n_33 w ((ap_mk w (ap_tg L C tg 4) x (L, d, st, go)).2.1) ((ap_mk w (ap_tg L C tg 4) x (L, d, st, go)).2.2.1) (ap_tg L C tg 4) hi (mi + (nI 1)) ((ap_mk w (ap_tg L C tg 4) x (L, d, st, go)).2.2.2)) H := hP
                replace hD : va_D A (cm q ca C f_32 n_33 w ((ap_mk w (ap_tg L C tg 4) x (L, d, st, go)).2.1) ((ap_mk w (ap_tg L C tg 4) x (L, d, st, go)).2.2.1) (ap_tg L C tg 4) hi (mi + (nI 1)) ((ap_mk w (ap_tg L C tg 4) x (L, d, st, go)).2.2.2)) := hD
                refine lv_aload_n hx hb dX2_request_184 rfl (lv_at hl 2 rfl) ?_
                refine lv_iload_n hx hb dX2_request_185 rfl (lv_at hl 3 rfl) ?_
                refine lv_iconst (v := nI 2) hx hb dX2_request_186 (by decide) ?_
                have hPc := hP.sub (ws' := (cm q ca C f_32 n_33 w ((ap_mk w (ap_tg L C tg 4) x (L, d, st, go)).2.1) ((ap_mk w (ap_tg L C tg 4) x (L, d, st, go)).2.2.1) (ap_tg L C tg 4) hi (mi + (nI 1)) ((ap_mk w (ap_tg L C tg 4) x (L, d, st, go)).2.2.2))) [0, 1, 2, 3, 4, 5] rfl
                have hDc := hD.sub (ws' := (cm q ca C f_32 n_33 w ((ap_mk w (ap_tg L C tg 4) x (L, d, st, go)).2.1) ((ap_mk w (ap_tg L C tg 4) x (L, d, st, go)).2.2.1) (ap_tg L C tg 4) hi (mi + (nI 1)) ((ap_mk w (ap_tg L C tg 4) x (L, d, st, go)).2.2.2))) [0, 1, 2, 3, 4, 5] (by decide) rfl
                have hKc := hK.sub (tys' := (km ca)) [0, 1, 2, 3, 4] rfl
                have hFc := va_free (wc := (cm q ca C f_32 n_33 w ((ap_mk w (ap_tg L C tg 4) x (L, d, st, go)).2.1) ((ap_mk w (ap_tg L C tg 4) x (L, d, st, go)).2.2.1) (ap_tg L C tg 4) hi (mi + (nI 1)) ((ap_mk w (ap_tg L C tg 4) x (L, d, st, go)).2.2.2))) hD hS hA [0, 1, 2, 3, 4, 5] rfl
                refine va_callv (va_runV (As := [.int x, .int (nI 2)]) (rest := []) ⟨hx, hb, hml, hown, hts⟩ (c_M_come l dC dI q ca C f_32 n_33 w ((ap_mk w (ap_tg L C tg 4) x (L, d, st, go)).2.1) ((ap_mk w (ap_tg L C tg 4) x (L, d, st, go)).2.2.1) (ap_tg L C tg 4) hi (mi + (nI 1)) ((ap_mk w (ap_tg L C tg 4) x (L, d, st, go)).2.2.2) ((ap_mk w (ap_tg L C tg 4) x (L, d, st, go)).1) x 2 H.size hfm_34 hmki9 hmkz9 (by decide) (by decide)) (cwV 2 hts gX2_request_X2_come rfl rfl rfl (by decide +kernel) ⟨Nat.le_of_ble_eq_true rfl, Nat.le_of_ble_eq_true rfl⟩) ⟨fun a U g mk q => by obtain ⟨q0, q1, qP, qK, qD⟩ := q; exact ⟨q0, q1, qP, va_K.moved (u := U) (U := U.calling g mk a) (Vm.Alike.refl U.vm) qK, qD⟩, va_recv hKc hPc (ci := 2) (q0 := 0) rfl rfl, fun U hU hW => ⟨rfl, by rw [hU], by rw [hU]; exact hPc, va_K.moved hW.alike hKc, hDc.weaken (fun _ _ _ _ => trivial)⟩⟩ rfl rfl hl.1 rfl (lv_room (Nat.le_of_ble_eq_true rfl)) dX2_request_187 ⟨Nat.le_of_ble_eq_true rfl, Nat.le_of_ble_eq_true rfl⟩) hS (fun q _ h => hFc q h) hFc (fun u t H1 locs ht hvm hw hB hz1 hk1 hS => ?_)
                obtain ⟨L1, w1, d1, st1, tg1, hi1, mi1, go1⟩ := u
                obtain ⟨f1, n1, hf1, hP1, hK1, hD1⟩ := hB
                rw [ht] at hP1
                cases hw
                obtain ⟨f_35, ef_35⟩ : ∃ z, z = f1 := ⟨_, rfl⟩
                rw [← ef_35] at hf1 hP1 hD1
                clear ef_35 f1
                obtain ⟨n_36, en_36⟩ : ∃ z, z = n1 := ⟨_, rfl⟩
                rw [← en_36] at hf1 hP1 hD1
                clear en_36 n1
                have hfm_37 := hf1
                obtain ⟨hP, hD⟩ := va_join (wr := []) (w1 := (cm q ca C f_35 n_36 w ((ap_mk w (ap_tg L C tg 4) x (L, d, st, go)).2.1) ((ap_mk w (ap_tg L C tg 4) x (L, d, st, go)).2.2.1) (ap_tg L C tg 4) hi (mi + (nI 1)) ((ap_mk w (ap_tg L C tg 4) x (L, d, st, go)).2.2.2))) hP hD [0, 1, 2, 3, 4, 5] [] rfl rfl (by decide) (by decide) hk1 hFc hP1 hD1
                generalize H1 = H at hP hS ⊢
                replace hP : va_P (dC, dI) vwCl (cm q ca C f_35 n_36 w ((ap_mk w (ap_tg L C tg 4) x (L, d, st, go)).2.1) ((ap_mk w (ap_tg L C tg 4) x (L, d, st, go)).2.2.1) (ap_tg L C tg 4) hi (mi + (nI 1)) ((ap_mk w (ap_tg L C tg 4) x (L, d, st, go)).2.2.2)) H := hP
                replace hD : va_D A (cm q ca C f_35 n_36 w ((ap_mk w (ap_tg L C tg 4) x (L, d, st, go)).2.1) ((ap_mk w (ap_tg L C tg 4) x (L, d, st, go)).2.2.1) (ap_tg L C tg 4) hi (mi + (nI 1)) ((ap_mk w (ap_tg L C tg 4) x (L, d, st, go)).2.2.2)) := hD
                have hfm_37d : fm_ok f_35 n_36 (ap_mv ((ap_mk w (ap_tg L C tg 4) x (L, d, st, go)).1) x 4 2) := by rw [ap_leave_1 hmkw9 (by decide)] at hfm_37; exact hfm_37
                refine lv_aload_n hx hb dX2_request_190 rfl (lv_at hl 2 rfl) ?_
                refine va_get (D := (dC, dI)) (ci := 2) (v := .ref (q 4)) (C := RX2) (T := TX2) (N := 10) hx hb hts hwX2 hown hK hP 0 rfl rfl 4 (by decide) (hts (.fieldLink RX2 19 "ArcCacheModel" "words" "[I") (by decide +kernel)) (fun _ h9 => h9) rfl dX2_request_191 ?_
                refine lv_iload_n hx hb dX2_request_194 rfl (lv_at hl 3 rfl) ?_
                refine lv_aload_n hx hb dX2_request_195 rfl (lv_at hl 2 rfl) ?_
                refine va_get (D := (dC, dI)) (ci := 2) (v := .ref (q 3)) (C := RX2) (T := TX2) (N := 10) hx hb hts hwX2 hown hK hP 0 rfl rfl 3 (by decide) (hts (.fieldLink RX2 16 "ArcCacheModel" "store" "[I") (by decide +kernel)) (fun _ h9 => h9) rfl dX2_request_196 ?_
                refine lv_iload_n hx hb dX2_request_199 rfl (lv_at hl 3 rfl) ?_
                refine va_iald hx hb hK hP 3 2 rfl rfl hx64 dX2_request_200 ?_
                refine va_iast hx hb hK hP hD hS 4 3 rfl rfl hx64 dX2_request_201 (fun H locs hP hD hS => ?_)
                replace hP : va_P (dC, dI) vwCl (cm q ca C f_35 n_36 (upd w x.toNatClampNeg ((ap_mk w (ap_tg L C tg 4) x (L, d, st, go)).2.2.1 x.toNatClampNeg)) ((ap_mk w (ap_tg L C tg 4) x (L, d, st, go)).2.1) ((ap_mk w (ap_tg L C tg 4) x (L, d, st, go)).2.2.1) (ap_tg L C tg 4) hi (mi + (nI 1)) ((ap_mk w (ap_tg L C tg 4) x (L, d, st, go)).2.2.2)) H := hP
                replace hD : va_D A (cm q ca C f_35 n_36 (upd w x.toNatClampNeg ((ap_mk w (ap_tg L C tg 4) x (L, d, st, go)).2.2.1 x.toNatClampNeg)) ((ap_mk w (ap_tg L C tg 4) x (L, d, st, go)).2.1) ((ap_mk w (ap_tg L C tg 4) x (L, d, st, go)).2.2.1) (ap_tg L C tg 4) hi (mi + (nI 1)) ((ap_mk w (ap_tg L C tg 4) x (L, d, st, go)).2.2.2)) := hD
                refine lv_aload_n hx hb dX2_request_202 rfl (lv_at hl 2 rfl) ?_
                refine va_get (D := (dC, dI)) (ci := 2) (v := .ref (q 5)) (C := RX2) (T := TX2) (N := 10) hx hb hts hwX2 hown hK hP 0 rfl rfl 5 (by decide) (hts (.fieldLink RX2 22 "ArcCacheModel" "dirty" "[Z") (by decide +kernel)) (fun _ h9 => h9) rfl dX2_request_203 ?_
                refine lv_iload_n hx hb dX2_request_206 rfl (lv_at hl 3 rfl) ?_
                refine lv_iconst (v := nI 0) hx hb dX2_request_207 (by decide) ?_
                refine va_zast hx hb hK hP hD hS 5 4 rfl rfl hx64 dX2_request_208 (fun H locs hP hD hS => ?_)
                rw [ap_nar0] at hP hD
                replace hP : va_P (dC, dI) vwCl (cm q ca C f_35 n_36 (upd w x.toNatClampNeg ((ap_mk w (ap_tg L C tg 4) x (L, d, st, go)).2.2.1 x.toNatClampNeg)) (upd ((ap_mk w (ap_tg L C tg 4) x (L, d, st, go)).2.1) x.toNatClampNeg 0) ((ap_mk w (ap_tg L C tg 4) x (L, d, st, go)).2.2.1) (ap_tg L C tg 4) hi (mi + (nI 1)) ((ap_mk w (ap_tg L C tg 4) x (L, d, st, go)).2.2.2)) H := hP
                replace hD : va_D A (cm q ca C f_35 n_36 (upd w x.toNatClampNeg ((ap_mk w (ap_tg L C tg 4) x (L, d, st, go)).2.2.1 x.toNatClampNeg)) (upd ((ap_mk w (ap_tg L C tg 4) x (L, d, st, go)).2.1) x.toNatClampNeg 0) ((ap_mk w (ap_tg L C tg 4) x (L, d, st, go)).2.2.1) (ap_tg L C tg 4) hi (mi + (nI 1)) ((ap_mk w (ap_tg L C tg 4) x (L, d, st, go)).2.2.2)) := hD
                exact W.vret hx hb hr (fun t ht hW => ⟨⟨(ap_mv (ap_mk w (ap_tg L C tg 4) x (L, d, st, go)).1 x 4 2, upd w x.toNatClampNeg ((ap_mk w (ap_tg L C tg 4) x (L, d, st, go)).2.2.1 x.toNatClampNeg), upd (ap_mk w (ap_tg L C tg 4) x (L, d, st, go)).2.1 x.toNatClampNeg 0, (ap_mk w (ap_tg L C tg 4) x (L, d, st, go)).2.2.1, ap_tg L C tg 4, hi, mi + 1, (ap_mk w (ap_tg L C tg 4) x (L, d, st, go)).2.2.2), rfl, hfin9, f_35, n_36, hfm_37d, by rw [ht]; exact hP, va_K.moved hW.alike hK, hD⟩, hS.F ht⟩) hS.2.2 dX2_request_209
              · skip
                replace c_168 : 4 = 0 := (nI_eq (a := 4) (b := 0) (by omega) (by omega)).mp c_168
                exact absurd c_168 (by omega)
            · skip
              refine lv_iconst (v := nI 0) hx hb dX2_request_156 (by decide) ?_
              refine lv_goto (tgt := 164) hx hb dX2_request_157 (by decide) ?_
              have hlt9 := ap_lt0 (by omega) (by omega) c_153
              refine lv_topi (fun x_38 e_x_38 => ?_)
              have e_x_38 : x_38 = nI (ap_tg L C tg 4) := by rw [e_x_38]; exact congrArg nI (by show _ = tg - max 1 ((L 3).length / (L 4).length); rw [← eq9]; omega)
              subst e_x_38
              refine va_put (D := (dC, dI)) (ci := 2) (v := .int (nI (ap_tg L C tg 4))) (ty := .int) (C := RX2) (T := TX2) (N := 10) hx hb hts hwX2 tyX2 tyX2_ok nmX2 hown hK hP hD hS 0 rfl rfl 6 (by decide) (hts (.fieldLink RX2 30 "ArcCacheModel" "target" "I") (by decide +kernel)) (fun _ h9 => h9) rfl (by decide +kernel) rfl rfl (Nat.le_of_ble_eq_true rfl) dX2_request_164 (fun H locs hP hD hS => ?_)
              replace hP : va_P (dC, dI) vwCl (cmr q ca C f_1 n_2 w d st (nI (ap_tg L C tg 4)) hi (mi + (nI 1)) go) H := hP
              replace hD : va_D A (cmr q ca C f_1 n_2 w d st (nI (ap_tg L C tg 4)) hi (mi + (nI 1)) go) := hD
              replace hP : va_P (dC, dI) vwCl (cm q ca C f_1 n_2 w d st (ap_tg L C tg 4) hi (mi + (nI 1)) go) H := hP
              replace hD : va_D A (cm q ca C f_1 n_2 w d st (ap_tg L C tg 4) hi (mi + (nI 1)) go) := hD
              refine lv_iload_n hx hb dX2_request_167 rfl (lv_at hl 1 rfl) ?_
              refine lv_if_ne (tgt := 179) hx hb dX2_request_168 (by decide) (fun c_168 => ?_) (fun c_168 => ?_)
              · skip
                replace c_168 : ¬ (4 = 0) := fun h9 => c_168 ((nI_eq (a := 4) (b := 0) (by omega) (by omega)).mpr h9)
                refine lv_aload_n hx hb dX2_request_179 rfl (lv_at hl 2 rfl) ?_
                refine lv_iload_n hx hb dX2_request_180 rfl (lv_at hl 3 rfl) ?_
                have hfin9 : (ap_mv (ap_mk w (ap_tg L C tg 4) x (L, d, st, go)).1 x 4 2, upd w x.toNatClampNeg ((ap_mk w (ap_tg L C tg 4) x (L, d, st, go)).2.2.1 x.toNatClampNeg), upd (ap_mk w (ap_tg L C tg 4) x (L, d, st, go)).2.1 x.toNatClampNeg 0, (ap_mk w (ap_tg L C tg 4) x (L, d, st, go)).2.2.1, ap_tg L C tg 4, hi, mi + 1, (ap_mk w (ap_tg L C tg 4) x (L, d, st, go)).2.2.2) = ap_rq C x (L, w, d, st, tg, hi, mi, go) := by rw [ap_rq_old ek9 (Or.inr rfl)]
                have htgle9 : ap_tg L C tg 4 ≤ C := ap_tg_le htg
                have hmkf9 := ap_mk_facts (w := w) (t := ap_tg L C tg 4) (a := x) (S := (L, d, st, go)) hI
                have hmki9 : ap_inv (ap_mk w (ap_tg L C tg 4) x (L, d, st, go)).1 := hmkf9.1
                have hmkz9 : ap_tot (ap_mk w (ap_tg L C tg 4) x (L, d, st, go)).1 ≤ 48 := by rw [ap_tot_mk (S := (L, d, st, go)) hI]; exact hz
                have hmkw9 : ap_wl (ap_mk w (ap_tg L C tg 4) x (L, d, st, go)).1 x = 4 := (hmkf9.2.2.2.2 x (by dsimp only; omega) (by dsimp only; omega)).trans ek9
                have hPc := hP.sub (ws' := (cm q ca C f_1 n_2 w d st (ap_tg L C tg 4) hi (mi + (nI 1)) go)) [0, 1, 2, 3, 4, 5] rfl
                have hDc := hD.sub (ws' := (cm q ca C f_1 n_2 w d st (ap_tg L C tg 4) hi (mi + (nI 1)) go)) [0, 1, 2, 3, 4, 5] (by decide) rfl
                have hKc := hK.sub (tys' := (km ca)) [0, 1, 2, 3, 4] rfl
                have hFc := va_free (wc := (cm q ca C f_1 n_2 w d st (ap_tg L C tg 4) hi (mi + (nI 1)) go)) hD hS hA [0, 1, 2, 3, 4, 5] rfl
                refine va_callv (va_runV (As := [.int x]) (rest := []) ⟨hx, hb, hml, hown, hts⟩ (c_M_makeRoom l dC dI q ca C f_1 n_2 w d st (ap_tg L C tg 4) hi (mi + (nI 1)) go L x H.size hfm_3 hI hz (by omega)) (cwV 1 hts gX2_request_X2_makeRoom rfl rfl rfl (by decide +kernel) ⟨Nat.le_of_ble_eq_true rfl, Nat.le_of_ble_eq_true rfl⟩) ⟨fun a U g mk q => by obtain ⟨q0, q1, qP, qK, qD⟩ := q; exact ⟨q0, q1, qP, va_K.moved (u := U) (U := U.calling g mk a) (Vm.Alike.refl U.vm) qK, qD⟩, va_recv hKc hPc (ci := 2) (q0 := 0) rfl rfl, fun U hU hW => ⟨rfl, by rw [hU], by rw [hU]; exact hPc, va_K.moved hW.alike hKc, hDc.weaken (fun _ _ _ _ => trivial)⟩⟩ rfl rfl hl.1 rfl (lv_room (Nat.le_of_ble_eq_true rfl)) dX2_request_181 ⟨Nat.le_of_ble_eq_true rfl, Nat.le_of_ble_eq_true rfl⟩) hS (fun q _ h => hFc q h) hFc (fun u t H1 locs ht hvm hw hB hz1 hk1 hS => ?_)
                obtain ⟨L1, w1, d1, st1, tg1, hi1, mi1, go1⟩ := u
                obtain ⟨f1, n1, hf1, hP1, hK1, hD1⟩ := hB
                rw [ht] at hP1
                obtain ⟨f_39, ef_39⟩ : ∃ z, z = f1 := ⟨_, rfl⟩
                rw [← ef_39] at hf1 hP1 hD1
                clear ef_39 f1
                obtain ⟨n_40, en_40⟩ : ∃ z, z = n1 := ⟨_, rfl⟩
                rw [← en_40] at hf1 hP1 hD1
                clear en_40 n1
                have hfm_41 := hf1
                replace hw := hw.symm
                simp only [ap_tu, Prod.mk.injEq] at hw
                obtain ⟨rfl, rfl, rfl, rfl, rfl, rfl, rfl, rfl⟩ := hw
                obtain ⟨hP, hD⟩ := va_join (wr := []) (w1 := (cm q ca C f_39 n_40 w ((ap_mk w (ap_tg L C tg 4) x (L, d, st, go)).2.1) ((ap_mk w (ap_tg L C tg 4) x (L, d, st, go)).2.2.1) (ap_tg L C tg 4) hi (mi + (nI 1)) ((ap_mk w (ap_tg L C tg 4) x (L, d, st, go)).2.2.2))) hP hD [0, 1, 2, 3, 4, 5] [] rfl rfl (by decide) (by decide) hk1 hFc hP1 hD1
                generalize H1 = H at hP hS ⊢
                replace hP : va_P (dC, dI) vwCl (cm q ca C f_39 n_40 w ((ap_mk w (ap_tg L C tg 4) x (L, d, st, go)).2.1) ((ap_mk w (ap_tg L C tg 4) x (L, d, st, go)).2.2.1) (ap_tg L C tg 4) hi (mi + (nI 1)) ((ap_mk w (ap_tg L C tg 4) x (L, d, st, go)).2.2.2)) H := hP
                replace hD : va_D A (cm q ca C f_39 n_40 w ((ap_mk w (ap_tg L C tg 4) x (L, d, st, go)).2.1) ((ap_mk w (ap_tg L C tg 4) x (L, d, st, go)).2.2.1) (ap_tg L C tg 4) hi (mi + (nI 1)) ((ap_mk w (ap_tg L C tg 4) x (L, d, st, go)).2.2.2)) := hD
                refine lv_aload_n hx hb dX2_request_184 rfl (lv_at hl 2 rfl) ?_
                refine lv_iload_n hx hb dX2_request_185 rfl (lv_at hl 3 rfl) ?_
                refine lv_iconst (v := nI 2) hx hb dX2_request_186 (by decide) ?_
                have hPc := hP.sub (ws' := (cm q ca C f_39 n_40 w ((ap_mk w (ap_tg L C tg 4) x (L, d, st, go)).2.1) ((ap_mk w (ap_tg L C tg 4) x (L, d, st, go)).2.2.1) (ap_tg L C tg 4) hi (mi + (nI 1)) ((ap_mk w (ap_tg L C tg 4) x (L, d, st, go)).2.2.2))) [0, 1, 2, 3, 4, 5] rfl
                have hDc := hD.sub (ws' := (cm q ca C f_39 n_40 w ((ap_mk w (ap_tg L C tg 4) x (L, d, st, go)).2.1) ((ap_mk w (ap_tg L C tg 4) x (L, d, st, go)).2.2.1) (ap_tg L C tg 4) hi (mi + (nI 1)) ((ap_mk w (ap_tg L C tg 4) x (L, d, st, go)).2.2.2))) [0, 1, 2, 3, 4, 5] (by decide) rfl
                have hKc := hK.sub (tys' := (km ca)) [0, 1, 2, 3, 4] rfl
                have hFc := va_free (wc := (cm q ca C f_39 n_40 w ((ap_mk w (ap_tg L C tg 4) x (L, d, st, go)).2.1) ((ap_mk w (ap_tg L C tg 4) x (L, d, st, go)).2.2.1) (ap_tg L C tg 4) hi (mi + (nI 1)) ((ap_mk w (ap_tg L C tg 4) x (L, d, st, go)).2.2.2))) hD hS hA [0, 1, 2, 3, 4, 5] rfl
                refine va_callv (va_runV (As := [.int x, .int (nI 2)]) (rest := []) ⟨hx, hb, hml, hown, hts⟩ (c_M_come l dC dI q ca C f_39 n_40 w ((ap_mk w (ap_tg L C tg 4) x (L, d, st, go)).2.1) ((ap_mk w (ap_tg L C tg 4) x (L, d, st, go)).2.2.1) (ap_tg L C tg 4) hi (mi + (nI 1)) ((ap_mk w (ap_tg L C tg 4) x (L, d, st, go)).2.2.2) ((ap_mk w (ap_tg L C tg 4) x (L, d, st, go)).1) x 2 H.size hfm_41 hmki9 hmkz9 (by decide) (by decide)) (cwV 2 hts gX2_request_X2_come rfl rfl rfl (by decide +kernel) ⟨Nat.le_of_ble_eq_true rfl, Nat.le_of_ble_eq_true rfl⟩) ⟨fun a U g mk q => by obtain ⟨q0, q1, qP, qK, qD⟩ := q; exact ⟨q0, q1, qP, va_K.moved (u := U) (U := U.calling g mk a) (Vm.Alike.refl U.vm) qK, qD⟩, va_recv hKc hPc (ci := 2) (q0 := 0) rfl rfl, fun U hU hW => ⟨rfl, by rw [hU], by rw [hU]; exact hPc, va_K.moved hW.alike hKc, hDc.weaken (fun _ _ _ _ => trivial)⟩⟩ rfl rfl hl.1 rfl (lv_room (Nat.le_of_ble_eq_true rfl)) dX2_request_187 ⟨Nat.le_of_ble_eq_true rfl, Nat.le_of_ble_eq_true rfl⟩) hS (fun q _ h => hFc q h) hFc (fun u t H1 locs ht hvm hw hB hz1 hk1 hS => ?_)
                obtain ⟨L1, w1, d1, st1, tg1, hi1, mi1, go1⟩ := u
                obtain ⟨f1, n1, hf1, hP1, hK1, hD1⟩ := hB
                rw [ht] at hP1
                cases hw
                obtain ⟨f_42, ef_42⟩ : ∃ z, z = f1 := ⟨_, rfl⟩
                rw [← ef_42] at hf1 hP1 hD1
                clear ef_42 f1
                obtain ⟨n_43, en_43⟩ : ∃ z, z = n1 := ⟨_, rfl⟩
                rw [← en_43] at hf1 hP1 hD1
                clear en_43 n1
                have hfm_44 := hf1
                obtain ⟨hP, hD⟩ := va_join (wr := []) (w1 := (cm q ca C f_42 n_43 w ((ap_mk w (ap_tg L C tg 4) x (L, d, st, go)).2.1) ((ap_mk w (ap_tg L C tg 4) x (L, d, st, go)).2.2.1) (ap_tg L C tg 4) hi (mi + (nI 1)) ((ap_mk w (ap_tg L C tg 4) x (L, d, st, go)).2.2.2))) hP hD [0, 1, 2, 3, 4, 5] [] rfl rfl (by decide) (by decide) hk1 hFc hP1 hD1
                generalize H1 = H at hP hS ⊢
                replace hP : va_P (dC, dI) vwCl (cm q ca C f_42 n_43 w ((ap_mk w (ap_tg L C tg 4) x (L, d, st, go)).2.1) ((ap_mk w (ap_tg L C tg 4) x (L, d, st, go)).2.2.1) (ap_tg L C tg 4) hi (mi + (nI 1)) ((ap_mk w (ap_tg L C tg 4) x (L, d, st, go)).2.2.2)) H := hP
                replace hD : va_D A (cm q ca C f_42 n_43 w ((ap_mk w (ap_tg L C tg 4) x (L, d, st, go)).2.1) ((ap_mk w (ap_tg L C tg 4) x (L, d, st, go)).2.2.1) (ap_tg L C tg 4) hi (mi + (nI 1)) ((ap_mk w (ap_tg L C tg 4) x (L, d, st, go)).2.2.2)) := hD
                have hfm_44d : fm_ok f_42 n_43 (ap_mv ((ap_mk w (ap_tg L C tg 4) x (L, d, st, go)).1) x 4 2) := by rw [ap_leave_1 hmkw9 (by decide)] at hfm_44; exact hfm_44
                refine lv_aload_n hx hb dX2_request_190 rfl (lv_at hl 2 rfl) ?_
                refine va_get (D := (dC, dI)) (ci := 2) (v := .ref (q 4)) (C := RX2) (T := TX2) (N := 10) hx hb hts hwX2 hown hK hP 0 rfl rfl 4 (by decide) (hts (.fieldLink RX2 19 "ArcCacheModel" "words" "[I") (by decide +kernel)) (fun _ h9 => h9) rfl dX2_request_191 ?_
                refine lv_iload_n hx hb dX2_request_194 rfl (lv_at hl 3 rfl) ?_
                refine lv_aload_n hx hb dX2_request_195 rfl (lv_at hl 2 rfl) ?_
                refine va_get (D := (dC, dI)) (ci := 2) (v := .ref (q 3)) (C := RX2) (T := TX2) (N := 10) hx hb hts hwX2 hown hK hP 0 rfl rfl 3 (by decide) (hts (.fieldLink RX2 16 "ArcCacheModel" "store" "[I") (by decide +kernel)) (fun _ h9 => h9) rfl dX2_request_196 ?_
                refine lv_iload_n hx hb dX2_request_199 rfl (lv_at hl 3 rfl) ?_
                refine va_iald hx hb hK hP 3 2 rfl rfl hx64 dX2_request_200 ?_
                refine va_iast hx hb hK hP hD hS 4 3 rfl rfl hx64 dX2_request_201 (fun H locs hP hD hS => ?_)
                replace hP : va_P (dC, dI) vwCl (cm q ca C f_42 n_43 (upd w x.toNatClampNeg ((ap_mk w (ap_tg L C tg 4) x (L, d, st, go)).2.2.1 x.toNatClampNeg)) ((ap_mk w (ap_tg L C tg 4) x (L, d, st, go)).2.1) ((ap_mk w (ap_tg L C tg 4) x (L, d, st, go)).2.2.1) (ap_tg L C tg 4) hi (mi + (nI 1)) ((ap_mk w (ap_tg L C tg 4) x (L, d, st, go)).2.2.2)) H := hP
                replace hD : va_D A (cm q ca C f_42 n_43 (upd w x.toNatClampNeg ((ap_mk w (ap_tg L C tg 4) x (L, d, st, go)).2.2.1 x.toNatClampNeg)) ((ap_mk w (ap_tg L C tg 4) x (L, d, st, go)).2.1) ((ap_mk w (ap_tg L C tg 4) x (L, d, st, go)).2.2.1) (ap_tg L C tg 4) hi (mi + (nI 1)) ((ap_mk w (ap_tg L C tg 4) x (L, d, st, go)).2.2.2)) := hD
                refine lv_aload_n hx hb dX2_request_202 rfl (lv_at hl 2 rfl) ?_
                refine va_get (D := (dC, dI)) (ci := 2) (v := .ref (q 5)) (C := RX2) (T := TX2) (N := 10) hx hb hts hwX2 hown hK hP 0 rfl rfl 5 (by decide) (hts (.fieldLink RX2 22 "ArcCacheModel" "dirty" "[Z") (by decide +kernel)) (fun _ h9 => h9) rfl dX2_request_203 ?_
                refine lv_iload_n hx hb dX2_request_206 rfl (lv_at hl 3 rfl) ?_
                refine lv_iconst (v := nI 0) hx hb dX2_request_207 (by decide) ?_
                refine va_zast hx hb hK hP hD hS 5 4 rfl rfl hx64 dX2_request_208 (fun H locs hP hD hS => ?_)
                rw [ap_nar0] at hP hD
                replace hP : va_P (dC, dI) vwCl (cm q ca C f_42 n_43 (upd w x.toNatClampNeg ((ap_mk w (ap_tg L C tg 4) x (L, d, st, go)).2.2.1 x.toNatClampNeg)) (upd ((ap_mk w (ap_tg L C tg 4) x (L, d, st, go)).2.1) x.toNatClampNeg 0) ((ap_mk w (ap_tg L C tg 4) x (L, d, st, go)).2.2.1) (ap_tg L C tg 4) hi (mi + (nI 1)) ((ap_mk w (ap_tg L C tg 4) x (L, d, st, go)).2.2.2)) H := hP
                replace hD : va_D A (cm q ca C f_42 n_43 (upd w x.toNatClampNeg ((ap_mk w (ap_tg L C tg 4) x (L, d, st, go)).2.2.1 x.toNatClampNeg)) (upd ((ap_mk w (ap_tg L C tg 4) x (L, d, st, go)).2.1) x.toNatClampNeg 0) ((ap_mk w (ap_tg L C tg 4) x (L, d, st, go)).2.2.1) (ap_tg L C tg 4) hi (mi + (nI 1)) ((ap_mk w (ap_tg L C tg 4) x (L, d, st, go)).2.2.2)) := hD
                exact W.vret hx hb hr (fun t ht hW => ⟨⟨(ap_mv (ap_mk w (ap_tg L C tg 4) x (L, d, st, go)).1 x 4 2, upd w x.toNatClampNeg ((ap_mk w (ap_tg L C tg 4) x (L, d, st, go)).2.2.1 x.toNatClampNeg), upd (ap_mk w (ap_tg L C tg 4) x (L, d, st, go)).2.1 x.toNatClampNeg 0, (ap_mk w (ap_tg L C tg 4) x (L, d, st, go)).2.2.1, ap_tg L C tg 4, hi, mi + 1, (ap_mk w (ap_tg L C tg 4) x (L, d, st, go)).2.2.2), rfl, hfin9, f_42, n_43, hfm_44d, by rw [ht]; exact hP, va_K.moved hW.alike hK, hD⟩, hS.F ht⟩) hS.2.2 dX2_request_209
              · skip
                replace c_168 : 4 = 0 := (nI_eq (a := 4) (b := 0) (by omega) (by omega)).mp c_168
                exact absurd c_168 (by omega)
      · skip
        replace c_45 : (ap_wl L x) = 3 := (nI_eq (a := ap_wl L x) (b := 3) (by omega) (by omega)).mp c_45
        have ek9 : ap_wl L x = 3 := by omega
        rw [ek9] at hl
        have hmm9 : x ∈ L 3 := by have h9 := ap_wl_mem (L := L) (a := x) (by omega); rw [ek9] at h9; exact h9
        have hpp9 : 0 < (L 3).length := List.length_pos_of_mem hmm9
        refine lv_aload_n hx hb dX2_request_48 rfl (lv_at hl 1 rfl) ?_
        refine va_get (D := (dC, dI)) (ci := 2) (v := .ref (q 2)) (C := RX2) (T := TX2) (N := 10) hx hb hts hwX2 hown hK hP 0 rfl rfl 2 (by decide) (hts (.fieldLink RX2 13 "ArcCacheModel" "many" "[I") (by decide +kernel)) (fun _ h9 => h9) rfl dX2_request_49 ?_
        refine lv_iconst (v := nI 4) hx hb dX2_request_52 (by decide) ?_
        refine va_iald hx hb hK hP 2 1 rfl rfl (vp_in_nI (show 4 < 5 by omega) (by decide)) dX2_request_53 ?_
        refine lv_topi (fun x_46 e_x_46 => ?_)
        have e_x_46 : x_46 = n_2 4 := by rw [e_x_46]; rw [nI_clamp (by omega)]
        subst e_x_46
        refine lv_topi (fun x_47 e_x_47 => ?_)
        have e_x_47 : x_47 = nI ((L 4).length) := by rw [e_x_47]; exact (hfm_3 4 (by decide) (by decide)).1
        subst e_x_47
        refine lv_aload_n hx hb dX2_request_54 rfl (lv_at hl 1 rfl) ?_
        refine va_get (D := (dC, dI)) (ci := 2) (v := .ref (q 2)) (C := RX2) (T := TX2) (N := 10) hx hb hts hwX2 hown hK hP 0 rfl rfl 2 (by decide) (hts (.fieldLink RX2 13 "ArcCacheModel" "many" "[I") (by decide +kernel)) (fun _ h9 => h9) rfl dX2_request_55 ?_
        refine lv_iconst (v := nI 3) hx hb dX2_request_58 (by decide) ?_
        refine va_iald hx hb hK hP 2 1 rfl rfl (vp_in_nI (show 3 < 5 by omega) (by decide)) dX2_request_59 ?_
        refine lv_topi (fun x_49 e_x_49 => ?_)
        have e_x_49 : x_49 = n_2 3 := by rw [e_x_49]; rw [nI_clamp (by omega)]
        subst e_x_49
        refine lv_topi (fun x_50 e_x_50 => ?_)
        have e_x_50 : x_50 = nI ((L 3).length) := by rw [e_x_50]; exact (hfm_3 3 (by decide) (by decide)).1
        subst e_x_50
        refine lv_idiv hx hb dX2_request_60 (nI_ne0 (by omega) (by omega)) ?_
        obtain ⟨q9, eq9⟩ : ∃ z, z = (L 4).length / (L 3).length := ⟨_, rfl⟩
        have hq9 : q9 ≤ 48 := by rw [eq9]; exact Nat.le_trans ap_divle (by omega)
        refine lv_topi (fun x_51 e_x_51 => ?_)
        have e_x_51 : x_51 = nI q9 := by rw [e_x_51]; rw [eq9]; exact pk_div (by omega) (by omega) (by omega)
        subst e_x_51
        refine lv_istore_n (lv' := [(3, .int (nI q9)), (2, .int (nI 3)), (0, .ref (q 0)), (1, .int x)]) hx hb dX2_request_61 rfl hl (by decide) rfl (fun ls hl => ?_)
        refine lv_aload_n hx hb dX2_request_62 rfl (lv_at hl 2 rfl) ?_
        refine lv_dup hx hb dX2_request_63 rfl ?_
        refine va_get (D := (dC, dI)) (ci := 2) (v := .int (nI tg)) (C := RX2) (T := TX2) (N := 10) hx hb hts hwX2 hown hK hP 0 rfl rfl 6 (by decide) (hts (.fieldLink RX2 30 "ArcCacheModel" "target" "I") (by decide +kernel)) (fun _ h9 => h9) rfl dX2_request_64 ?_
        refine lv_iload_n hx hb dX2_request_67 rfl (lv_at hl 0 rfl) ?_
        refine lv_iconst (v := nI 1) hx hb dX2_request_68 (by decide) ?_
        refine lv_icmp_ge (tgt := 76) hx hb dX2_request_69 (by decide) (fun c_69 => ?_) (fun c_69 => ?_)
        · skip
          replace c_69 : 1 ≤ q9 := (nI_leI (a := 1) (b := q9) (by omega) (by omega)).mp c_69
          refine lv_iload_n hx hb dX2_request_76 rfl (lv_at hl 0 rfl) ?_
          refine lv_iadd hx hb dX2_request_77 ?_
          refine lv_topi (fun x_52 e_x_52 => ?_)
          have e_x_52 : x_52 = nI (tg + q9) := by rw [e_x_52]; exact nI_add _ _
          subst e_x_52
          refine va_put (D := (dC, dI)) (ci := 2) (v := .int (nI (tg + q9))) (ty := .int) (C := RX2) (T := TX2) (N := 10) hx hb hts hwX2 tyX2 tyX2_ok nmX2 hown hK hP hD hS 0 rfl rfl 6 (by decide) (hts (.fieldLink RX2 30 "ArcCacheModel" "target" "I") (by decide +kernel)) (fun _ h9 => h9) rfl (by decide +kernel) rfl rfl (Nat.le_of_ble_eq_true rfl) dX2_request_78 (fun H locs hP hD hS => ?_)
          replace hP : va_P (dC, dI) vwCl (cm q ca C f_1 n_2 w d st (tg + q9) hi (mi + (nI 1)) go) H := hP
          replace hD : va_D A (cm q ca C f_1 n_2 w d st (tg + q9) hi (mi + (nI 1)) go) := hD
          refine lv_aload_n hx hb dX2_request_81 rfl (lv_at hl 2 rfl) ?_
          refine lv_aload_n hx hb dX2_request_82 rfl (lv_at hl 2 rfl) ?_
          refine va_get (D := (dC, dI)) (ci := 2) (v := .int (nI (tg + q9))) (C := RX2) (T := TX2) (N := 10) hx hb hts hwX2 hown hK hP 0 rfl rfl 6 (by decide) (hts (.fieldLink RX2 30 "ArcCacheModel" "target" "I") (by decide +kernel)) (fun _ h9 => h9) rfl dX2_request_83 ?_
          refine lv_aload_n hx hb dX2_request_86 rfl (lv_at hl 2 rfl) ?_
          refine va_get (D := (dC, dI)) (ci := 2) (v := .int (nI C)) (C := RX2) (T := TX2) (N := 10) hx hb hts hwX2 hown hK hP 0 rfl rfl 0 (by decide) (hts (.fieldLink RX2 26 "ArcCacheModel" "pages" "I") (by decide +kernel)) (fun _ h9 => h9) rfl dX2_request_87 ?_
          refine lv_icmp_le (tgt := 100) hx hb dX2_request_90 (by decide) (fun c_90 => ?_) (fun c_90 => ?_)
          · skip
            replace c_90 : (tg + q9) ≤ C := (nI_leI (a := tg + q9) (b := C) (by omega) (by omega)).mp c_90
            refine lv_aload_n hx hb dX2_request_100 rfl (lv_at hl 2 rfl) ?_
            refine va_get (D := (dC, dI)) (ci := 2) (v := .int (nI (tg + q9))) (C := RX2) (T := TX2) (N := 10) hx hb hts hwX2 hown hK hP 0 rfl rfl 6 (by decide) (hts (.fieldLink RX2 30 "ArcCacheModel" "target" "I") (by decide +kernel)) (fun _ h9 => h9) rfl dX2_request_101 ?_
            refine lv_topi (fun x_53 e_x_53 => ?_)
            have e_x_53 : x_53 = nI (ap_tg L C tg 3) := by rw [e_x_53]; exact congrArg nI (by show _ = min C (tg + max 1 ((L 4).length / (L 3).length)); rw [← eq9]; omega)
            subst e_x_53
            refine va_put (D := (dC, dI)) (ci := 2) (v := .int (nI (ap_tg L C tg 3))) (ty := .int) (C := RX2) (T := TX2) (N := 10) hx hb hts hwX2 tyX2 tyX2_ok nmX2 hown hK hP hD hS 0 rfl rfl 6 (by decide) (hts (.fieldLink RX2 30 "ArcCacheModel" "target" "I") (by decide +kernel)) (fun _ h9 => h9) rfl (by decide +kernel) rfl rfl (Nat.le_of_ble_eq_true rfl) dX2_request_104 (fun H locs hP hD hS => ?_)
            replace hP : va_P (dC, dI) vwCl (cm q ca C f_1 n_2 w d st (ap_tg L C tg 3) hi (mi + (nI 1)) go) H := hP
            replace hD : va_D A (cm q ca C f_1 n_2 w d st (ap_tg L C tg 3) hi (mi + (nI 1)) go) := hD
            refine lv_goto (tgt := 167) hx hb dX2_request_107 (by decide) ?_
            refine lv_iload_n hx hb dX2_request_167 rfl (lv_at hl 1 rfl) ?_
            refine lv_if_ne (tgt := 179) hx hb dX2_request_168 (by decide) (fun c_168 => ?_) (fun c_168 => ?_)
            · skip
              replace c_168 : ¬ (3 = 0) := fun h9 => c_168 ((nI_eq (a := 3) (b := 0) (by omega) (by omega)).mpr h9)
              refine lv_aload_n hx hb dX2_request_179 rfl (lv_at hl 2 rfl) ?_
              refine lv_iload_n hx hb dX2_request_180 rfl (lv_at hl 3 rfl) ?_
              have hfin9 : (ap_mv (ap_mk w (ap_tg L C tg 3) x (L, d, st, go)).1 x 3 2, upd w x.toNatClampNeg ((ap_mk w (ap_tg L C tg 3) x (L, d, st, go)).2.2.1 x.toNatClampNeg), upd (ap_mk w (ap_tg L C tg 3) x (L, d, st, go)).2.1 x.toNatClampNeg 0, (ap_mk w (ap_tg L C tg 3) x (L, d, st, go)).2.2.1, ap_tg L C tg 3, hi, mi + 1, (ap_mk w (ap_tg L C tg 3) x (L, d, st, go)).2.2.2) = ap_rq C x (L, w, d, st, tg, hi, mi, go) := by rw [ap_rq_old ek9 (Or.inl rfl)]
              have htgle9 : ap_tg L C tg 3 ≤ C := ap_tg_le htg
              have hmkf9 := ap_mk_facts (w := w) (t := ap_tg L C tg 3) (a := x) (S := (L, d, st, go)) hI
              have hmki9 : ap_inv (ap_mk w (ap_tg L C tg 3) x (L, d, st, go)).1 := hmkf9.1
              have hmkz9 : ap_tot (ap_mk w (ap_tg L C tg 3) x (L, d, st, go)).1 ≤ 48 := by rw [ap_tot_mk (S := (L, d, st, go)) hI]; exact hz
              have hmkw9 : ap_wl (ap_mk w (ap_tg L C tg 3) x (L, d, st, go)).1 x = 3 := (hmkf9.2.2.2.2 x (by dsimp only; omega) (by dsimp only; omega)).trans ek9
              have hPc := hP.sub (ws' := (cm q ca C f_1 n_2 w d st (ap_tg L C tg 3) hi (mi + (nI 1)) go)) [0, 1, 2, 3, 4, 5] rfl
              have hDc := hD.sub (ws' := (cm q ca C f_1 n_2 w d st (ap_tg L C tg 3) hi (mi + (nI 1)) go)) [0, 1, 2, 3, 4, 5] (by decide) rfl
              have hKc := hK.sub (tys' := (km ca)) [0, 1, 2, 3, 4] rfl
              have hFc := va_free (wc := (cm q ca C f_1 n_2 w d st (ap_tg L C tg 3) hi (mi + (nI 1)) go)) hD hS hA [0, 1, 2, 3, 4, 5] rfl
              refine va_callv (va_runV (As := [.int x]) (rest := []) ⟨hx, hb, hml, hown, hts⟩ (c_M_makeRoom l dC dI q ca C f_1 n_2 w d st (ap_tg L C tg 3) hi (mi + (nI 1)) go L x H.size hfm_3 hI hz (by omega)) (cwV 1 hts gX2_request_X2_makeRoom rfl rfl rfl (by decide +kernel) ⟨Nat.le_of_ble_eq_true rfl, Nat.le_of_ble_eq_true rfl⟩) ⟨fun a U g mk q => by obtain ⟨q0, q1, qP, qK, qD⟩ := q; exact ⟨q0, q1, qP, va_K.moved (u := U) (U := U.calling g mk a) (Vm.Alike.refl U.vm) qK, qD⟩, va_recv hKc hPc (ci := 2) (q0 := 0) rfl rfl, fun U hU hW => ⟨rfl, by rw [hU], by rw [hU]; exact hPc, va_K.moved hW.alike hKc, hDc.weaken (fun _ _ _ _ => trivial)⟩⟩ rfl rfl hl.1 rfl (lv_room (Nat.le_of_ble_eq_true rfl)) dX2_request_181 ⟨Nat.le_of_ble_eq_true rfl, Nat.le_of_ble_eq_true rfl⟩) hS (fun q _ h => hFc q h) hFc (fun u t H1 locs ht hvm hw hB hz1 hk1 hS => ?_)
              obtain ⟨L1, w1, d1, st1, tg1, hi1, mi1, go1⟩ := u
              obtain ⟨f1, n1, hf1, hP1, hK1, hD1⟩ := hB
              rw [ht] at hP1
              obtain ⟨f_54, ef_54⟩ : ∃ z, z = f1 := ⟨_, rfl⟩
              rw [← ef_54] at hf1 hP1 hD1
              clear ef_54 f1
              obtain ⟨n_55, en_55⟩ : ∃ z, z = n1 := ⟨_, rfl⟩
              rw [← en_55] at hf1 hP1 hD1
              clear en_55 n1
              have hfm_56 := hf1
              replace hw := hw.symm
              simp only [ap_tu, Prod.mk.injEq] at hw
              obtain ⟨rfl, rfl, rfl, rfl, rfl, rfl, rfl, rfl⟩ := hw
              obtain ⟨hP, hD⟩ := va_join (wr := []) (w1 := (cm q ca C f_54 n_55 w ((ap_mk w (ap_tg L C tg 3) x (L, d, st, go)).2.1) ((ap_mk w (ap_tg L C tg 3) x (L, d, st, go)).2.2.1) (ap_tg L C tg 3) hi (mi + (nI 1)) ((ap_mk w (ap_tg L C tg 3) x (L, d, st, go)).2.2.2))) hP hD [0, 1, 2, 3, 4, 5] [] rfl rfl (by decide) (by decide) hk1 hFc hP1 hD1
              generalize H1 = H at hP hS ⊢
              replace hP : va_P (dC, dI) vwCl (cm q ca C f_54 n_55 w ((ap_mk w (ap_tg L C tg 3) x (L, d, st, go)).2.1) ((ap_mk w (ap_tg L C tg 3) x (L, d, st, go)).2.2.1) (ap_tg L C tg 3) hi (mi + (nI 1)) ((ap_mk w (ap_tg L C tg 3) x (L, d, st, go)).2.2.2)) H := hP
              replace hD : va_D A (cm q ca C f_54 n_55 w ((ap_mk w (ap_tg L C tg 3) x (L, d, st, go)).2.1) ((ap_mk w (ap_tg L C tg 3) x (L, d, st, go)).2.2.1) (ap_tg L C tg 3) hi (mi + (nI 1)) ((ap_mk w (ap_tg L C tg 3) x (L, d, st, go)).2.2.2)) := hD
              refine lv_aload_n hx hb dX2_request_184 rfl (lv_at hl 2 rfl) ?_
              refine lv_iload_n hx hb dX2_request_185 rfl (lv_at hl 3 rfl) ?_
              refine lv_iconst (v := nI 2) hx hb dX2_request_186 (by decide) ?_
              have hPc := hP.sub (ws' := (cm q ca C f_54 n_55 w ((ap_mk w (ap_tg L C tg 3) x (L, d, st, go)).2.1) ((ap_mk w (ap_tg L C tg 3) x (L, d, st, go)).2.2.1) (ap_tg L C tg 3) hi (mi + (nI 1)) ((ap_mk w (ap_tg L C tg 3) x (L, d, st, go)).2.2.2))) [0, 1, 2, 3, 4, 5] rfl
              have hDc := hD.sub (ws' := (cm q ca C f_54 n_55 w ((ap_mk w (ap_tg L C tg 3) x (L, d, st, go)).2.1) ((ap_mk w (ap_tg L C tg 3) x (L, d, st, go)).2.2.1) (ap_tg L C tg 3) hi (mi + (nI 1)) ((ap_mk w (ap_tg L C tg 3) x (L, d, st, go)).2.2.2))) [0, 1, 2, 3, 4, 5] (by decide) rfl
              have hKc := hK.sub (tys' := (km ca)) [0, 1, 2, 3, 4] rfl
              have hFc := va_free (wc := (cm q ca C f_54 n_55 w ((ap_mk w (ap_tg L C tg 3) x (L, d, st, go)).2.1) ((ap_mk w (ap_tg L C tg 3) x (L, d, st, go)).2.2.1) (ap_tg L C tg 3) hi (mi + (nI 1)) ((ap_mk w (ap_tg L C tg 3) x (L, d, st, go)).2.2.2))) hD hS hA [0, 1, 2, 3, 4, 5] rfl
              refine va_callv (va_runV (As := [.int x, .int (nI 2)]) (rest := []) ⟨hx, hb, hml, hown, hts⟩ (c_M_come l dC dI q ca C f_54 n_55 w ((ap_mk w (ap_tg L C tg 3) x (L, d, st, go)).2.1) ((ap_mk w (ap_tg L C tg 3) x (L, d, st, go)).2.2.1) (ap_tg L C tg 3) hi (mi + (nI 1)) ((ap_mk w (ap_tg L C tg 3) x (L, d, st, go)).2.2.2) ((ap_mk w (ap_tg L C tg 3) x (L, d, st, go)).1) x 2 H.size hfm_56 hmki9 hmkz9 (by decide) (by decide)) (cwV 2 hts gX2_request_X2_come rfl rfl rfl (by decide +kernel) ⟨Nat.le_of_ble_eq_true rfl, Nat.le_of_ble_eq_true rfl⟩) ⟨fun a U g mk q => by obtain ⟨q0, q1, qP, qK, qD⟩ := q; exact ⟨q0, q1, qP, va_K.moved (u := U) (U := U.calling g mk a) (Vm.Alike.refl U.vm) qK, qD⟩, va_recv hKc hPc (ci := 2) (q0 := 0) rfl rfl, fun U hU hW => ⟨rfl, by rw [hU], by rw [hU]; exact hPc, va_K.moved hW.alike hKc, hDc.weaken (fun _ _ _ _ => trivial)⟩⟩ rfl rfl hl.1 rfl (lv_room (Nat.le_of_ble_eq_true rfl)) dX2_request_187 ⟨Nat.le_of_ble_eq_true rfl, Nat.le_of_ble_eq_true rfl⟩) hS (fun q _ h => hFc q h) hFc (fun u t H1 locs ht hvm hw hB hz1 hk1 hS => ?_)
              obtain ⟨L1, w1, d1, st1, tg1, hi1, mi1, go1⟩ := u
              obtain ⟨f1, n1, hf1, hP1, hK1, hD1⟩ := hB
              rw [ht] at hP1
              cases hw
              obtain ⟨f_57, ef_57⟩ : ∃ z, z = f1 := ⟨_, rfl⟩
              rw [← ef_57] at hf1 hP1 hD1
              clear ef_57 f1
              obtain ⟨n_58, en_58⟩ : ∃ z, z = n1 := ⟨_, rfl⟩
              rw [← en_58] at hf1 hP1 hD1
              clear en_58 n1
              have hfm_59 := hf1
              obtain ⟨hP, hD⟩ := va_join (wr := []) (w1 := (cm q ca C f_57 n_58 w ((ap_mk w (ap_tg L C tg 3) x (L, d, st, go)).2.1) ((ap_mk w (ap_tg L C tg 3) x (L, d, st, go)).2.2.1) (ap_tg L C tg 3) hi (mi + (nI 1)) ((ap_mk w (ap_tg L C tg 3) x (L, d, st, go)).2.2.2))) hP hD [0, 1, 2, 3, 4, 5] [] rfl rfl (by decide) (by decide) hk1 hFc hP1 hD1
              generalize H1 = H at hP hS ⊢
              replace hP : va_P (dC, dI) vwCl (cm q ca C f_57 n_58 w ((ap_mk w (ap_tg L C tg 3) x (L, d, st, go)).2.1) ((ap_mk w (ap_tg L C tg 3) x (L, d, st, go)).2.2.1) (ap_tg L C tg 3) hi (mi + (nI 1)) ((ap_mk w (ap_tg L C tg 3) x (L, d, st, go)).2.2.2)) H := hP
              replace hD : va_D A (cm q ca C f_57 n_58 w ((ap_mk w (ap_tg L C tg 3) x (L, d, st, go)).2.1) ((ap_mk w (ap_tg L C tg 3) x (L, d, st, go)).2.2.1) (ap_tg L C tg 3) hi (mi + (nI 1)) ((ap_mk w (ap_tg L C tg 3) x (L, d, st, go)).2.2.2)) := hD
              have hfm_59d : fm_ok f_57 n_58 (ap_mv ((ap_mk w (ap_tg L C tg 3) x (L, d, st, go)).1) x 3 2) := by rw [ap_leave_1 hmkw9 (by decide)] at hfm_59; exact hfm_59
              refine lv_aload_n hx hb dX2_request_190 rfl (lv_at hl 2 rfl) ?_
              refine va_get (D := (dC, dI)) (ci := 2) (v := .ref (q 4)) (C := RX2) (T := TX2) (N := 10) hx hb hts hwX2 hown hK hP 0 rfl rfl 4 (by decide) (hts (.fieldLink RX2 19 "ArcCacheModel" "words" "[I") (by decide +kernel)) (fun _ h9 => h9) rfl dX2_request_191 ?_
              refine lv_iload_n hx hb dX2_request_194 rfl (lv_at hl 3 rfl) ?_
              refine lv_aload_n hx hb dX2_request_195 rfl (lv_at hl 2 rfl) ?_
              refine va_get (D := (dC, dI)) (ci := 2) (v := .ref (q 3)) (C := RX2) (T := TX2) (N := 10) hx hb hts hwX2 hown hK hP 0 rfl rfl 3 (by decide) (hts (.fieldLink RX2 16 "ArcCacheModel" "store" "[I") (by decide +kernel)) (fun _ h9 => h9) rfl dX2_request_196 ?_
              refine lv_iload_n hx hb dX2_request_199 rfl (lv_at hl 3 rfl) ?_
              refine va_iald hx hb hK hP 3 2 rfl rfl hx64 dX2_request_200 ?_
              refine va_iast hx hb hK hP hD hS 4 3 rfl rfl hx64 dX2_request_201 (fun H locs hP hD hS => ?_)
              replace hP : va_P (dC, dI) vwCl (cm q ca C f_57 n_58 (upd w x.toNatClampNeg ((ap_mk w (ap_tg L C tg 3) x (L, d, st, go)).2.2.1 x.toNatClampNeg)) ((ap_mk w (ap_tg L C tg 3) x (L, d, st, go)).2.1) ((ap_mk w (ap_tg L C tg 3) x (L, d, st, go)).2.2.1) (ap_tg L C tg 3) hi (mi + (nI 1)) ((ap_mk w (ap_tg L C tg 3) x (L, d, st, go)).2.2.2)) H := hP
              replace hD : va_D A (cm q ca C f_57 n_58 (upd w x.toNatClampNeg ((ap_mk w (ap_tg L C tg 3) x (L, d, st, go)).2.2.1 x.toNatClampNeg)) ((ap_mk w (ap_tg L C tg 3) x (L, d, st, go)).2.1) ((ap_mk w (ap_tg L C tg 3) x (L, d, st, go)).2.2.1) (ap_tg L C tg 3) hi (mi + (nI 1)) ((ap_mk w (ap_tg L C tg 3) x (L, d, st, go)).2.2.2)) := hD
              refine lv_aload_n hx hb dX2_request_202 rfl (lv_at hl 2 rfl) ?_
              refine va_get (D := (dC, dI)) (ci := 2) (v := .ref (q 5)) (C := RX2) (T := TX2) (N := 10) hx hb hts hwX2 hown hK hP 0 rfl rfl 5 (by decide) (hts (.fieldLink RX2 22 "ArcCacheModel" "dirty" "[Z") (by decide +kernel)) (fun _ h9 => h9) rfl dX2_request_203 ?_
              refine lv_iload_n hx hb dX2_request_206 rfl (lv_at hl 3 rfl) ?_
              refine lv_iconst (v := nI 0) hx hb dX2_request_207 (by decide) ?_
              refine va_zast hx hb hK hP hD hS 5 4 rfl rfl hx64 dX2_request_208 (fun H locs hP hD hS => ?_)
              rw [ap_nar0] at hP hD
              replace hP : va_P (dC, dI) vwCl (cm q ca C f_57 n_58 (upd w x.toNatClampNeg ((ap_mk w (ap_tg L C tg 3) x (L, d, st, go)).2.2.1 x.toNatClampNeg)) (upd ((ap_mk w (ap_tg L C tg 3) x (L, d, st, go)).2.1) x.toNatClampNeg 0) ((ap_mk w (ap_tg L C tg 3) x (L, d, st, go)).2.2.1) (ap_tg L C tg 3) hi (mi + (nI 1)) ((ap_mk w (ap_tg L C tg 3) x (L, d, st, go)).2.2.2)) H := hP
              replace hD : va_D A (cm q ca C f_57 n_58 (upd w x.toNatClampNeg ((ap_mk w (ap_tg L C tg 3) x (L, d, st, go)).2.2.1 x.toNatClampNeg)) (upd ((ap_mk w (ap_tg L C tg 3) x (L, d, st, go)).2.1) x.toNatClampNeg 0) ((ap_mk w (ap_tg L C tg 3) x (L, d, st, go)).2.2.1) (ap_tg L C tg 3) hi (mi + (nI 1)) ((ap_mk w (ap_tg L C tg 3) x (L, d, st, go)).2.2.2)) := hD
              exact W.vret hx hb hr (fun t ht hW => ⟨⟨(ap_mv (ap_mk w (ap_tg L C tg 3) x (L, d, st, go)).1 x 3 2, upd w x.toNatClampNeg ((ap_mk w (ap_tg L C tg 3) x (L, d, st, go)).2.2.1 x.toNatClampNeg), upd (ap_mk w (ap_tg L C tg 3) x (L, d, st, go)).2.1 x.toNatClampNeg 0, (ap_mk w (ap_tg L C tg 3) x (L, d, st, go)).2.2.1, ap_tg L C tg 3, hi, mi + 1, (ap_mk w (ap_tg L C tg 3) x (L, d, st, go)).2.2.2), rfl, hfin9, f_57, n_58, hfm_59d, by rw [ht]; exact hP, va_K.moved hW.alike hK, hD⟩, hS.F ht⟩) hS.2.2 dX2_request_209
            · skip
              replace c_168 : 3 = 0 := (nI_eq (a := 3) (b := 0) (by omega) (by omega)).mp c_168
              exact absurd c_168 (by omega)
          · skip
            replace c_90 : ¬ ((tg + q9) ≤ C) := fun h9 => c_90 ((nI_leI (a := tg + q9) (b := C) (by omega) (by omega)).mpr h9)
            refine lv_aload_n hx hb dX2_request_93 rfl (lv_at hl 2 rfl) ?_
            refine va_get (D := (dC, dI)) (ci := 2) (v := .int (nI C)) (C := RX2) (T := TX2) (N := 10) hx hb hts hwX2 hown hK hP 0 rfl rfl 0 (by decide) (hts (.fieldLink RX2 26 "ArcCacheModel" "pages" "I") (by decide +kernel)) (fun _ h9 => h9) rfl dX2_request_94 ?_
            refine lv_goto (tgt := 104) hx hb dX2_request_97 (by decide) ?_
            refine lv_topi (fun x_60 e_x_60 => ?_)
            have e_x_60 : x_60 = nI (ap_tg L C tg 3) := by rw [e_x_60]; exact congrArg nI (by show _ = min C (tg + max 1 ((L 4).length / (L 3).length)); rw [← eq9]; omega)
            subst e_x_60
            refine va_put (D := (dC, dI)) (ci := 2) (v := .int (nI (ap_tg L C tg 3))) (ty := .int) (C := RX2) (T := TX2) (N := 10) hx hb hts hwX2 tyX2 tyX2_ok nmX2 hown hK hP hD hS 0 rfl rfl 6 (by decide) (hts (.fieldLink RX2 30 "ArcCacheModel" "target" "I") (by decide +kernel)) (fun _ h9 => h9) rfl (by decide +kernel) rfl rfl (Nat.le_of_ble_eq_true rfl) dX2_request_104 (fun H locs hP hD hS => ?_)
            replace hP : va_P (dC, dI) vwCl (cm q ca C f_1 n_2 w d st (ap_tg L C tg 3) hi (mi + (nI 1)) go) H := hP
            replace hD : va_D A (cm q ca C f_1 n_2 w d st (ap_tg L C tg 3) hi (mi + (nI 1)) go) := hD
            refine lv_goto (tgt := 167) hx hb dX2_request_107 (by decide) ?_
            refine lv_iload_n hx hb dX2_request_167 rfl (lv_at hl 1 rfl) ?_
            refine lv_if_ne (tgt := 179) hx hb dX2_request_168 (by decide) (fun c_168 => ?_) (fun c_168 => ?_)
            · skip
              replace c_168 : ¬ (3 = 0) := fun h9 => c_168 ((nI_eq (a := 3) (b := 0) (by omega) (by omega)).mpr h9)
              refine lv_aload_n hx hb dX2_request_179 rfl (lv_at hl 2 rfl) ?_
              refine lv_iload_n hx hb dX2_request_180 rfl (lv_at hl 3 rfl) ?_
              have hfin9 : (ap_mv (ap_mk w (ap_tg L C tg 3) x (L, d, st, go)).1 x 3 2, upd w x.toNatClampNeg ((ap_mk w (ap_tg L C tg 3) x (L, d, st, go)).2.2.1 x.toNatClampNeg), upd (ap_mk w (ap_tg L C tg 3) x (L, d, st, go)).2.1 x.toNatClampNeg 0, (ap_mk w (ap_tg L C tg 3) x (L, d, st, go)).2.2.1, ap_tg L C tg 3, hi, mi + 1, (ap_mk w (ap_tg L C tg 3) x (L, d, st, go)).2.2.2) = ap_rq C x (L, w, d, st, tg, hi, mi, go) := by rw [ap_rq_old ek9 (Or.inl rfl)]
              have htgle9 : ap_tg L C tg 3 ≤ C := ap_tg_le htg
              have hmkf9 := ap_mk_facts (w := w) (t := ap_tg L C tg 3) (a := x) (S := (L, d, st, go)) hI
              have hmki9 : ap_inv (ap_mk w (ap_tg L C tg 3) x (L, d, st, go)).1 := hmkf9.1
              have hmkz9 : ap_tot (ap_mk w (ap_tg L C tg 3) x (L, d, st, go)).1 ≤ 48 := by rw [ap_tot_mk (S := (L, d, st, go)) hI]; exact hz
              have hmkw9 : ap_wl (ap_mk w (ap_tg L C tg 3) x (L, d, st, go)).1 x = 3 := (hmkf9.2.2.2.2 x (by dsimp only; omega) (by dsimp only; omega)).trans ek9
              have hPc := hP.sub (ws' := (cm q ca C f_1 n_2 w d st (ap_tg L C tg 3) hi (mi + (nI 1)) go)) [0, 1, 2, 3, 4, 5] rfl
              have hDc := hD.sub (ws' := (cm q ca C f_1 n_2 w d st (ap_tg L C tg 3) hi (mi + (nI 1)) go)) [0, 1, 2, 3, 4, 5] (by decide) rfl
              have hKc := hK.sub (tys' := (km ca)) [0, 1, 2, 3, 4] rfl
              have hFc := va_free (wc := (cm q ca C f_1 n_2 w d st (ap_tg L C tg 3) hi (mi + (nI 1)) go)) hD hS hA [0, 1, 2, 3, 4, 5] rfl
              refine va_callv (va_runV (As := [.int x]) (rest := []) ⟨hx, hb, hml, hown, hts⟩ (c_M_makeRoom l dC dI q ca C f_1 n_2 w d st (ap_tg L C tg 3) hi (mi + (nI 1)) go L x H.size hfm_3 hI hz (by omega)) (cwV 1 hts gX2_request_X2_makeRoom rfl rfl rfl (by decide +kernel) ⟨Nat.le_of_ble_eq_true rfl, Nat.le_of_ble_eq_true rfl⟩) ⟨fun a U g mk q => by obtain ⟨q0, q1, qP, qK, qD⟩ := q; exact ⟨q0, q1, qP, va_K.moved (u := U) (U := U.calling g mk a) (Vm.Alike.refl U.vm) qK, qD⟩, va_recv hKc hPc (ci := 2) (q0 := 0) rfl rfl, fun U hU hW => ⟨rfl, by rw [hU], by rw [hU]; exact hPc, va_K.moved hW.alike hKc, hDc.weaken (fun _ _ _ _ => trivial)⟩⟩ rfl rfl hl.1 rfl (lv_room (Nat.le_of_ble_eq_true rfl)) dX2_request_181 ⟨Nat.le_of_ble_eq_true rfl, Nat.le_of_ble_eq_true rfl⟩) hS (fun q _ h => hFc q h) hFc (fun u t H1 locs ht hvm hw hB hz1 hk1 hS => ?_)
              obtain ⟨L1, w1, d1, st1, tg1, hi1, mi1, go1⟩ := u
              obtain ⟨f1, n1, hf1, hP1, hK1, hD1⟩ := hB
              rw [ht] at hP1
              obtain ⟨f_61, ef_61⟩ : ∃ z, z = f1 := ⟨_, rfl⟩
              rw [← ef_61] at hf1 hP1 hD1
              clear ef_61 f1
              obtain ⟨n_62, en_62⟩ : ∃ z, z = n1 := ⟨_, rfl⟩
              rw [← en_62] at hf1 hP1 hD1
              clear en_62 n1
              have hfm_63 := hf1
              replace hw := hw.symm
              simp only [ap_tu, Prod.mk.injEq] at hw
              obtain ⟨rfl, rfl, rfl, rfl, rfl, rfl, rfl, rfl⟩ := hw
              obtain ⟨hP, hD⟩ := va_join (wr := []) (w1 := (cm q ca C f_61 n_62 w ((ap_mk w (ap_tg L C tg 3) x (L, d, st, go)).2.1) ((ap_mk w (ap_tg L C tg 3) x (L, d, st, go)).2.2.1) (ap_tg L C tg 3) hi (mi + (nI 1)) ((ap_mk w (ap_tg L C tg 3) x (L, d, st, go)).2.2.2))) hP hD [0, 1, 2, 3, 4, 5] [] rfl rfl (by decide) (by decide) hk1 hFc hP1 hD1
              generalize H1 = H at hP hS ⊢
              replace hP : va_P (dC, dI) vwCl (cm q ca C f_61 n_62 w ((ap_mk w (ap_tg L C tg 3) x (L, d, st, go)).2.1) ((ap_mk w (ap_tg L C tg 3) x (L, d, st, go)).2.2.1) (ap_tg L C tg 3) hi (mi + (nI 1)) ((ap_mk w (ap_tg L C tg 3) x (L, d, st, go)).2.2.2)) H := hP
              replace hD : va_D A (cm q ca C f_61 n_62 w ((ap_mk w (ap_tg L C tg 3) x (L, d, st, go)).2.1) ((ap_mk w (ap_tg L C tg 3) x (L, d, st, go)).2.2.1) (ap_tg L C tg 3) hi (mi + (nI 1)) ((ap_mk w (ap_tg L C tg 3) x (L, d, st, go)).2.2.2)) := hD
              refine lv_aload_n hx hb dX2_request_184 rfl (lv_at hl 2 rfl) ?_
              refine lv_iload_n hx hb dX2_request_185 rfl (lv_at hl 3 rfl) ?_
              refine lv_iconst (v := nI 2) hx hb dX2_request_186 (by decide) ?_
              have hPc := hP.sub (ws' := (cm q ca C f_61 n_62 w ((ap_mk w (ap_tg L C tg 3) x (L, d, st, go)).2.1) ((ap_mk w (ap_tg L C tg 3) x (L, d, st, go)).2.2.1) (ap_tg L C tg 3) hi (mi + (nI 1)) ((ap_mk w (ap_tg L C tg 3) x (L, d, st, go)).2.2.2))) [0, 1, 2, 3, 4, 5] rfl
              have hDc := hD.sub (ws' := (cm q ca C f_61 n_62 w ((ap_mk w (ap_tg L C tg 3) x (L, d, st, go)).2.1) ((ap_mk w (ap_tg L C tg 3) x (L, d, st, go)).2.2.1) (ap_tg L C tg 3) hi (mi + (nI 1)) ((ap_mk w (ap_tg L C tg 3) x (L, d, st, go)).2.2.2))) [0, 1, 2, 3, 4, 5] (by decide) rfl
              have hKc := hK.sub (tys' := (km ca)) [0, 1, 2, 3, 4] rfl
              have hFc := va_free (wc := (cm q ca C f_61 n_62 w ((ap_mk w (ap_tg L C tg 3) x (L, d, st, go)).2.1) ((ap_mk w (ap_tg L C tg 3) x (L, d, st, go)).2.2.1) (ap_tg L C tg 3) hi (mi + (nI 1)) ((ap_mk w (ap_tg L C tg 3) x (L, d, st, go)).2.2.2))) hD hS hA [0, 1, 2, 3, 4, 5] rfl
              refine va_callv (va_runV (As := [.int x, .int (nI 2)]) (rest := []) ⟨hx, hb, hml, hown, hts⟩ (c_M_come l dC dI q ca C f_61 n_62 w ((ap_mk w (ap_tg L C tg 3) x (L, d, st, go)).2.1) ((ap_mk w (ap_tg L C tg 3) x (L, d, st, go)).2.2.1) (ap_tg L C tg 3) hi (mi + (nI 1)) ((ap_mk w (ap_tg L C tg 3) x (L, d, st, go)).2.2.2) ((ap_mk w (ap_tg L C tg 3) x (L, d, st, go)).1) x 2 H.size hfm_63 hmki9 hmkz9 (by decide) (by decide)) (cwV 2 hts gX2_request_X2_come rfl rfl rfl (by decide +kernel) ⟨Nat.le_of_ble_eq_true rfl, Nat.le_of_ble_eq_true rfl⟩) ⟨fun a U g mk q => by obtain ⟨q0, q1, qP, qK, qD⟩ := q; exact ⟨q0, q1, qP, va_K.moved (u := U) (U := U.calling g mk a) (Vm.Alike.refl U.vm) qK, qD⟩, va_recv hKc hPc (ci := 2) (q0 := 0) rfl rfl, fun U hU hW => ⟨rfl, by rw [hU], by rw [hU]; exact hPc, va_K.moved hW.alike hKc, hDc.weaken (fun _ _ _ _ => trivial)⟩⟩ rfl rfl hl.1 rfl (lv_room (Nat.le_of_ble_eq_true rfl)) dX2_request_187 ⟨Nat.le_of_ble_eq_true rfl, Nat.le_of_ble_eq_true rfl⟩) hS (fun q _ h => hFc q h) hFc (fun u t H1 locs ht hvm hw hB hz1 hk1 hS => ?_)
              obtain ⟨L1, w1, d1, st1, tg1, hi1, mi1, go1⟩ := u
              obtain ⟨f1, n1, hf1, hP1, hK1, hD1⟩ := hB
              rw [ht] at hP1
              cases hw
              obtain ⟨f_64, ef_64⟩ : ∃ z, z = f1 := ⟨_, rfl⟩
              rw [← ef_64] at hf1 hP1 hD1
              clear ef_64 f1
              obtain ⟨n_65, en_65⟩ : ∃ z, z = n1 := ⟨_, rfl⟩
              rw [← en_65] at hf1 hP1 hD1
              clear en_65 n1
              have hfm_66 := hf1
              obtain ⟨hP, hD⟩ := va_join (wr := []) (w1 := (cm q ca C f_64 n_65 w ((ap_mk w (ap_tg L C tg 3) x (L, d, st, go)).2.1) ((ap_mk w (ap_tg L C tg 3) x (L, d, st, go)).2.2.1) (ap_tg L C tg 3) hi (mi + (nI 1)) ((ap_mk w (ap_tg L C tg 3) x (L, d, st, go)).2.2.2))) hP hD [0, 1, 2, 3, 4, 5] [] rfl rfl (by decide) (by decide) hk1 hFc hP1 hD1
              generalize H1 = H at hP hS ⊢
              replace hP : va_P (dC, dI) vwCl (cm q ca C f_64 n_65 w ((ap_mk w (ap_tg L C tg 3) x (L, d, st, go)).2.1) ((ap_mk w (ap_tg L C tg 3) x (L, d, st, go)).2.2.1) (ap_tg L C tg 3) hi (mi + (nI 1)) ((ap_mk w (ap_tg L C tg 3) x (L, d, st, go)).2.2.2)) H := hP
              replace hD : va_D A (cm q ca C f_64 n_65 w ((ap_mk w (ap_tg L C tg 3) x (L, d, st, go)).2.1) ((ap_mk w (ap_tg L C tg 3) x (L, d, st, go)).2.2.1) (ap_tg L C tg 3) hi (mi + (nI 1)) ((ap_mk w (ap_tg L C tg 3) x (L, d, st, go)).2.2.2)) := hD
              have hfm_66d : fm_ok f_64 n_65 (ap_mv ((ap_mk w (ap_tg L C tg 3) x (L, d, st, go)).1) x 3 2) := by rw [ap_leave_1 hmkw9 (by decide)] at hfm_66; exact hfm_66
              refine lv_aload_n hx hb dX2_request_190 rfl (lv_at hl 2 rfl) ?_
              refine va_get (D := (dC, dI)) (ci := 2) (v := .ref (q 4)) (C := RX2) (T := TX2) (N := 10) hx hb hts hwX2 hown hK hP 0 rfl rfl 4 (by decide) (hts (.fieldLink RX2 19 "ArcCacheModel" "words" "[I") (by decide +kernel)) (fun _ h9 => h9) rfl dX2_request_191 ?_
              refine lv_iload_n hx hb dX2_request_194 rfl (lv_at hl 3 rfl) ?_
              refine lv_aload_n hx hb dX2_request_195 rfl (lv_at hl 2 rfl) ?_
              refine va_get (D := (dC, dI)) (ci := 2) (v := .ref (q 3)) (C := RX2) (T := TX2) (N := 10) hx hb hts hwX2 hown hK hP 0 rfl rfl 3 (by decide) (hts (.fieldLink RX2 16 "ArcCacheModel" "store" "[I") (by decide +kernel)) (fun _ h9 => h9) rfl dX2_request_196 ?_
              refine lv_iload_n hx hb dX2_request_199 rfl (lv_at hl 3 rfl) ?_
              refine va_iald hx hb hK hP 3 2 rfl rfl hx64 dX2_request_200 ?_
              refine va_iast hx hb hK hP hD hS 4 3 rfl rfl hx64 dX2_request_201 (fun H locs hP hD hS => ?_)
              replace hP : va_P (dC, dI) vwCl (cm q ca C f_64 n_65 (upd w x.toNatClampNeg ((ap_mk w (ap_tg L C tg 3) x (L, d, st, go)).2.2.1 x.toNatClampNeg)) ((ap_mk w (ap_tg L C tg 3) x (L, d, st, go)).2.1) ((ap_mk w (ap_tg L C tg 3) x (L, d, st, go)).2.2.1) (ap_tg L C tg 3) hi (mi + (nI 1)) ((ap_mk w (ap_tg L C tg 3) x (L, d, st, go)).2.2.2)) H := hP
              replace hD : va_D A (cm q ca C f_64 n_65 (upd w x.toNatClampNeg ((ap_mk w (ap_tg L C tg 3) x (L, d, st, go)).2.2.1 x.toNatClampNeg)) ((ap_mk w (ap_tg L C tg 3) x (L, d, st, go)).2.1) ((ap_mk w (ap_tg L C tg 3) x (L, d, st, go)).2.2.1) (ap_tg L C tg 3) hi (mi + (nI 1)) ((ap_mk w (ap_tg L C tg 3) x (L, d, st, go)).2.2.2)) := hD
              refine lv_aload_n hx hb dX2_request_202 rfl (lv_at hl 2 rfl) ?_
              refine va_get (D := (dC, dI)) (ci := 2) (v := .ref (q 5)) (C := RX2) (T := TX2) (N := 10) hx hb hts hwX2 hown hK hP 0 rfl rfl 5 (by decide) (hts (.fieldLink RX2 22 "ArcCacheModel" "dirty" "[Z") (by decide +kernel)) (fun _ h9 => h9) rfl dX2_request_203 ?_
              refine lv_iload_n hx hb dX2_request_206 rfl (lv_at hl 3 rfl) ?_
              refine lv_iconst (v := nI 0) hx hb dX2_request_207 (by decide) ?_
              refine va_zast hx hb hK hP hD hS 5 4 rfl rfl hx64 dX2_request_208 (fun H locs hP hD hS => ?_)
              rw [ap_nar0] at hP hD
              replace hP : va_P (dC, dI) vwCl (cm q ca C f_64 n_65 (upd w x.toNatClampNeg ((ap_mk w (ap_tg L C tg 3) x (L, d, st, go)).2.2.1 x.toNatClampNeg)) (upd ((ap_mk w (ap_tg L C tg 3) x (L, d, st, go)).2.1) x.toNatClampNeg 0) ((ap_mk w (ap_tg L C tg 3) x (L, d, st, go)).2.2.1) (ap_tg L C tg 3) hi (mi + (nI 1)) ((ap_mk w (ap_tg L C tg 3) x (L, d, st, go)).2.2.2)) H := hP
              replace hD : va_D A (cm q ca C f_64 n_65 (upd w x.toNatClampNeg ((ap_mk w (ap_tg L C tg 3) x (L, d, st, go)).2.2.1 x.toNatClampNeg)) (upd ((ap_mk w (ap_tg L C tg 3) x (L, d, st, go)).2.1) x.toNatClampNeg 0) ((ap_mk w (ap_tg L C tg 3) x (L, d, st, go)).2.2.1) (ap_tg L C tg 3) hi (mi + (nI 1)) ((ap_mk w (ap_tg L C tg 3) x (L, d, st, go)).2.2.2)) := hD
              exact W.vret hx hb hr (fun t ht hW => ⟨⟨(ap_mv (ap_mk w (ap_tg L C tg 3) x (L, d, st, go)).1 x 3 2, upd w x.toNatClampNeg ((ap_mk w (ap_tg L C tg 3) x (L, d, st, go)).2.2.1 x.toNatClampNeg), upd (ap_mk w (ap_tg L C tg 3) x (L, d, st, go)).2.1 x.toNatClampNeg 0, (ap_mk w (ap_tg L C tg 3) x (L, d, st, go)).2.2.1, ap_tg L C tg 3, hi, mi + 1, (ap_mk w (ap_tg L C tg 3) x (L, d, st, go)).2.2.2), rfl, hfin9, f_64, n_65, hfm_66d, by rw [ht]; exact hP, va_K.moved hW.alike hK, hD⟩, hS.F ht⟩) hS.2.2 dX2_request_209
            · skip
              replace c_168 : 3 = 0 := (nI_eq (a := 3) (b := 0) (by omega) (by omega)).mp c_168
              exact absurd c_168 (by omega)
        · skip
          replace c_69 : ¬ (1 ≤ q9) := fun h9 => c_69 ((nI_leI (a := 1) (b := q9) (by omega) (by omega)).mpr h9)
          refine lv_iconst (v := nI 1) hx hb dX2_request_72 (by decide) ?_
          refine lv_goto (tgt := 77) hx hb dX2_request_73 (by decide) ?_
          refine lv_iadd hx hb dX2_request_77 ?_
          refine lv_topi (fun x_67 e_x_67 => ?_)
          have e_x_67 : x_67 = nI (tg + 1) := by rw [e_x_67]; exact nI_add _ _
          subst e_x_67
          refine va_put (D := (dC, dI)) (ci := 2) (v := .int (nI (tg + 1))) (ty := .int) (C := RX2) (T := TX2) (N := 10) hx hb hts hwX2 tyX2 tyX2_ok nmX2 hown hK hP hD hS 0 rfl rfl 6 (by decide) (hts (.fieldLink RX2 30 "ArcCacheModel" "target" "I") (by decide +kernel)) (fun _ h9 => h9) rfl (by decide +kernel) rfl rfl (Nat.le_of_ble_eq_true rfl) dX2_request_78 (fun H locs hP hD hS => ?_)
          replace hP : va_P (dC, dI) vwCl (cm q ca C f_1 n_2 w d st (tg + 1) hi (mi + (nI 1)) go) H := hP
          replace hD : va_D A (cm q ca C f_1 n_2 w d st (tg + 1) hi (mi + (nI 1)) go) := hD
          refine lv_aload_n hx hb dX2_request_81 rfl (lv_at hl 2 rfl) ?_
          refine lv_aload_n hx hb dX2_request_82 rfl (lv_at hl 2 rfl) ?_
          refine va_get (D := (dC, dI)) (ci := 2) (v := .int (nI (tg + 1))) (C := RX2) (T := TX2) (N := 10) hx hb hts hwX2 hown hK hP 0 rfl rfl 6 (by decide) (hts (.fieldLink RX2 30 "ArcCacheModel" "target" "I") (by decide +kernel)) (fun _ h9 => h9) rfl dX2_request_83 ?_
          refine lv_aload_n hx hb dX2_request_86 rfl (lv_at hl 2 rfl) ?_
          refine va_get (D := (dC, dI)) (ci := 2) (v := .int (nI C)) (C := RX2) (T := TX2) (N := 10) hx hb hts hwX2 hown hK hP 0 rfl rfl 0 (by decide) (hts (.fieldLink RX2 26 "ArcCacheModel" "pages" "I") (by decide +kernel)) (fun _ h9 => h9) rfl dX2_request_87 ?_
          refine lv_icmp_le (tgt := 100) hx hb dX2_request_90 (by decide) (fun c_90 => ?_) (fun c_90 => ?_)
          · skip
            replace c_90 : (tg + 1) ≤ C := (nI_leI (a := tg + 1) (b := C) (by omega) (by omega)).mp c_90
            refine lv_aload_n hx hb dX2_request_100 rfl (lv_at hl 2 rfl) ?_
            refine va_get (D := (dC, dI)) (ci := 2) (v := .int (nI (tg + 1))) (C := RX2) (T := TX2) (N := 10) hx hb hts hwX2 hown hK hP 0 rfl rfl 6 (by decide) (hts (.fieldLink RX2 30 "ArcCacheModel" "target" "I") (by decide +kernel)) (fun _ h9 => h9) rfl dX2_request_101 ?_
            refine lv_topi (fun x_68 e_x_68 => ?_)
            have e_x_68 : x_68 = nI (ap_tg L C tg 3) := by rw [e_x_68]; exact congrArg nI (by show _ = min C (tg + max 1 ((L 4).length / (L 3).length)); rw [← eq9]; omega)
            subst e_x_68
            refine va_put (D := (dC, dI)) (ci := 2) (v := .int (nI (ap_tg L C tg 3))) (ty := .int) (C := RX2) (T := TX2) (N := 10) hx hb hts hwX2 tyX2 tyX2_ok nmX2 hown hK hP hD hS 0 rfl rfl 6 (by decide) (hts (.fieldLink RX2 30 "ArcCacheModel" "target" "I") (by decide +kernel)) (fun _ h9 => h9) rfl (by decide +kernel) rfl rfl (Nat.le_of_ble_eq_true rfl) dX2_request_104 (fun H locs hP hD hS => ?_)
            replace hP : va_P (dC, dI) vwCl (cm q ca C f_1 n_2 w d st (ap_tg L C tg 3) hi (mi + (nI 1)) go) H := hP
            replace hD : va_D A (cm q ca C f_1 n_2 w d st (ap_tg L C tg 3) hi (mi + (nI 1)) go) := hD
            refine lv_goto (tgt := 167) hx hb dX2_request_107 (by decide) ?_
            refine lv_iload_n hx hb dX2_request_167 rfl (lv_at hl 1 rfl) ?_
            refine lv_if_ne (tgt := 179) hx hb dX2_request_168 (by decide) (fun c_168 => ?_) (fun c_168 => ?_)
            · skip
              replace c_168 : ¬ (3 = 0) := fun h9 => c_168 ((nI_eq (a := 3) (b := 0) (by omega) (by omega)).mpr h9)
              refine lv_aload_n hx hb dX2_request_179 rfl (lv_at hl 2 rfl) ?_
              refine lv_iload_n hx hb dX2_request_180 rfl (lv_at hl 3 rfl) ?_
              have hfin9 : (ap_mv (ap_mk w (ap_tg L C tg 3) x (L, d, st, go)).1 x 3 2, upd w x.toNatClampNeg ((ap_mk w (ap_tg L C tg 3) x (L, d, st, go)).2.2.1 x.toNatClampNeg), upd (ap_mk w (ap_tg L C tg 3) x (L, d, st, go)).2.1 x.toNatClampNeg 0, (ap_mk w (ap_tg L C tg 3) x (L, d, st, go)).2.2.1, ap_tg L C tg 3, hi, mi + 1, (ap_mk w (ap_tg L C tg 3) x (L, d, st, go)).2.2.2) = ap_rq C x (L, w, d, st, tg, hi, mi, go) := by rw [ap_rq_old ek9 (Or.inl rfl)]
              have htgle9 : ap_tg L C tg 3 ≤ C := ap_tg_le htg
              have hmkf9 := ap_mk_facts (w := w) (t := ap_tg L C tg 3) (a := x) (S := (L, d, st, go)) hI
              have hmki9 : ap_inv (ap_mk w (ap_tg L C tg 3) x (L, d, st, go)).1 := hmkf9.1
              have hmkz9 : ap_tot (ap_mk w (ap_tg L C tg 3) x (L, d, st, go)).1 ≤ 48 := by rw [ap_tot_mk (S := (L, d, st, go)) hI]; exact hz
              have hmkw9 : ap_wl (ap_mk w (ap_tg L C tg 3) x (L, d, st, go)).1 x = 3 := (hmkf9.2.2.2.2 x (by dsimp only; omega) (by dsimp only; omega)).trans ek9
              have hPc := hP.sub (ws' := (cm q ca C f_1 n_2 w d st (ap_tg L C tg 3) hi (mi + (nI 1)) go)) [0, 1, 2, 3, 4, 5] rfl
              have hDc := hD.sub (ws' := (cm q ca C f_1 n_2 w d st (ap_tg L C tg 3) hi (mi + (nI 1)) go)) [0, 1, 2, 3, 4, 5] (by decide) rfl
              have hKc := hK.sub (tys' := (km ca)) [0, 1, 2, 3, 4] rfl
              have hFc := va_free (wc := (cm q ca C f_1 n_2 w d st (ap_tg L C tg 3) hi (mi + (nI 1)) go)) hD hS hA [0, 1, 2, 3, 4, 5] rfl
              refine va_callv (va_runV (As := [.int x]) (rest := []) ⟨hx, hb, hml, hown, hts⟩ (c_M_makeRoom l dC dI q ca C f_1 n_2 w d st (ap_tg L C tg 3) hi (mi + (nI 1)) go L x H.size hfm_3 hI hz (by omega)) (cwV 1 hts gX2_request_X2_makeRoom rfl rfl rfl (by decide +kernel) ⟨Nat.le_of_ble_eq_true rfl, Nat.le_of_ble_eq_true rfl⟩) ⟨fun a U g mk q => by obtain ⟨q0, q1, qP, qK, qD⟩ := q; exact ⟨q0, q1, qP, va_K.moved (u := U) (U := U.calling g mk a) (Vm.Alike.refl U.vm) qK, qD⟩, va_recv hKc hPc (ci := 2) (q0 := 0) rfl rfl, fun U hU hW => ⟨rfl, by rw [hU], by rw [hU]; exact hPc, va_K.moved hW.alike hKc, hDc.weaken (fun _ _ _ _ => trivial)⟩⟩ rfl rfl hl.1 rfl (lv_room (Nat.le_of_ble_eq_true rfl)) dX2_request_181 ⟨Nat.le_of_ble_eq_true rfl, Nat.le_of_ble_eq_true rfl⟩) hS (fun q _ h => hFc q h) hFc (fun u t H1 locs ht hvm hw hB hz1 hk1 hS => ?_)
              obtain ⟨L1, w1, d1, st1, tg1, hi1, mi1, go1⟩ := u
              obtain ⟨f1, n1, hf1, hP1, hK1, hD1⟩ := hB
              rw [ht] at hP1
              obtain ⟨f_69, ef_69⟩ : ∃ z, z = f1 := ⟨_, rfl⟩
              rw [← ef_69] at hf1 hP1 hD1
              clear ef_69 f1
              obtain ⟨n_70, en_70⟩ : ∃ z, z = n1 := ⟨_, rfl⟩
              rw [← en_70] at hf1 hP1 hD1
              clear en_70 n1
              have hfm_71 := hf1
              replace hw := hw.symm
              simp only [ap_tu, Prod.mk.injEq] at hw
              obtain ⟨rfl, rfl, rfl, rfl, rfl, rfl, rfl, rfl⟩ := hw
              obtain ⟨hP, hD⟩ := va_join (wr := []) (w1 := (cm q ca C f_69 n_70 w ((ap_mk w (ap_tg L C tg 3) x (L, d, st, go)).2.1) ((ap_mk w (ap_tg L C tg 3) x (L, d, st, go)).2.2.1) (ap_tg L C tg 3) hi (mi + (nI 1)) ((ap_mk w (ap_tg L C tg 3) x (L, d, st, go)).2.2.2))) hP hD [0, 1, 2, 3, 4, 5] [] rfl rfl (by decide) (by decide) hk1 hFc hP1 hD1
              generalize H1 = H at hP hS ⊢
              replace hP : va_P (dC, dI) vwCl (cm q ca C f_69 n_70 w ((ap_mk w (ap_tg L C tg 3) x (L, d, st, go)).2.1) ((ap_mk w (ap_tg L C tg 3) x (L, d, st, go)).2.2.1) (ap_tg L C tg 3) hi (mi + (nI 1)) ((ap_mk w (ap_tg L C tg 3) x (L, d, st, go)).2.2.2)) H := hP
              replace hD : va_D A (cm q ca C f_69 n_70 w ((ap_mk w (ap_tg L C tg 3) x (L, d, st, go)).2.1) ((ap_mk w (ap_tg L C tg 3) x (L, d, st, go)).2.2.1) (ap_tg L C tg 3) hi (mi + (nI 1)) ((ap_mk w (ap_tg L C tg 3) x (L, d, st, go)).2.2.2)) := hD
              refine lv_aload_n hx hb dX2_request_184 rfl (lv_at hl 2 rfl) ?_
              refine lv_iload_n hx hb dX2_request_185 rfl (lv_at hl 3 rfl) ?_
              refine lv_iconst (v := nI 2) hx hb dX2_request_186 (by decide) ?_
              have hPc := hP.sub (ws' := (cm q ca C f_69 n_70 w ((ap_mk w (ap_tg L C tg 3) x (L, d, st, go)).2.1) ((ap_mk w (ap_tg L C tg 3) x (L, d, st, go)).2.2.1) (ap_tg L C tg 3) hi (mi + (nI 1)) ((ap_mk w (ap_tg L C tg 3) x (L, d, st, go)).2.2.2))) [0, 1, 2, 3, 4, 5] rfl
              have hDc := hD.sub (ws' := (cm q ca C f_69 n_70 w ((ap_mk w (ap_tg L C tg 3) x (L, d, st, go)).2.1) ((ap_mk w (ap_tg L C tg 3) x (L, d, st, go)).2.2.1) (ap_tg L C tg 3) hi (mi + (nI 1)) ((ap_mk w (ap_tg L C tg 3) x (L, d, st, go)).2.2.2))) [0, 1, 2, 3, 4, 5] (by decide) rfl
              have hKc := hK.sub (tys' := (km ca)) [0, 1, 2, 3, 4] rfl
              have hFc := va_free (wc := (cm q ca C f_69 n_70 w ((ap_mk w (ap_tg L C tg 3) x (L, d, st, go)).2.1) ((ap_mk w (ap_tg L C tg 3) x (L, d, st, go)).2.2.1) (ap_tg L C tg 3) hi (mi + (nI 1)) ((ap_mk w (ap_tg L C tg 3) x (L, d, st, go)).2.2.2))) hD hS hA [0, 1, 2, 3, 4, 5] rfl
              refine va_callv (va_runV (As := [.int x, .int (nI 2)]) (rest := []) ⟨hx, hb, hml, hown, hts⟩ (c_M_come l dC dI q ca C f_69 n_70 w ((ap_mk w (ap_tg L C tg 3) x (L, d, st, go)).2.1) ((ap_mk w (ap_tg L C tg 3) x (L, d, st, go)).2.2.1) (ap_tg L C tg 3) hi (mi + (nI 1)) ((ap_mk w (ap_tg L C tg 3) x (L, d, st, go)).2.2.2) ((ap_mk w (ap_tg L C tg 3) x (L, d, st, go)).1) x 2 H.size hfm_71 hmki9 hmkz9 (by decide) (by decide)) (cwV 2 hts gX2_request_X2_come rfl rfl rfl (by decide +kernel) ⟨Nat.le_of_ble_eq_true rfl, Nat.le_of_ble_eq_true rfl⟩) ⟨fun a U g mk q => by obtain ⟨q0, q1, qP, qK, qD⟩ := q; exact ⟨q0, q1, qP, va_K.moved (u := U) (U := U.calling g mk a) (Vm.Alike.refl U.vm) qK, qD⟩, va_recv hKc hPc (ci := 2) (q0 := 0) rfl rfl, fun U hU hW => ⟨rfl, by rw [hU], by rw [hU]; exact hPc, va_K.moved hW.alike hKc, hDc.weaken (fun _ _ _ _ => trivial)⟩⟩ rfl rfl hl.1 rfl (lv_room (Nat.le_of_ble_eq_true rfl)) dX2_request_187 ⟨Nat.le_of_ble_eq_true rfl, Nat.le_of_ble_eq_true rfl⟩) hS (fun q _ h => hFc q h) hFc (fun u t H1 locs ht hvm hw hB hz1 hk1 hS => ?_)
              obtain ⟨L1, w1, d1, st1, tg1, hi1, mi1, go1⟩ := u
              obtain ⟨f1, n1, hf1, hP1, hK1, hD1⟩ := hB
              rw [ht] at hP1
              cases hw
              obtain ⟨f_72, ef_72⟩ : ∃ z, z = f1 := ⟨_, rfl⟩
              rw [← ef_72] at hf1 hP1 hD1
              clear ef_72 f1
              obtain ⟨n_73, en_73⟩ : ∃ z, z = n1 := ⟨_, rfl⟩
              rw [← en_73] at hf1 hP1 hD1
              clear en_73 n1
              have hfm_74 := hf1
              obtain ⟨hP, hD⟩ := va_join (wr := []) (w1 := (cm q ca C f_72 n_73 w ((ap_mk w (ap_tg L C tg 3) x (L, d, st, go)).2.1) ((ap_mk w (ap_tg L C tg 3) x (L, d, st, go)).2.2.1) (ap_tg L C tg 3) hi (mi + (nI 1)) ((ap_mk w (ap_tg L C tg 3) x (L, d, st, go)).2.2.2))) hP hD [0, 1, 2, 3, 4, 5] [] rfl rfl (by decide) (by decide) hk1 hFc hP1 hD1
              generalize H1 = H at hP hS ⊢
              replace hP : va_P (dC, dI) vwCl (cm q ca C f_72 n_73 w ((ap_mk w (ap_tg L C tg 3) x (L, d, st, go)).2.1) ((ap_mk w (ap_tg L C tg 3) x (L, d, st, go)).2.2.1) (ap_tg L C tg 3) hi (mi + (nI 1)) ((ap_mk w (ap_tg L C tg 3) x (L, d, st, go)).2.2.2)) H := hP
              replace hD : va_D A (cm q ca C f_72 n_73 w ((ap_mk w (ap_tg L C tg 3) x (L, d, st, go)).2.1) ((ap_mk w (ap_tg L C tg 3) x (L, d, st, go)).2.2.1) (ap_tg L C tg 3) hi (mi + (nI 1)) ((ap_mk w (ap_tg L C tg 3) x (L, d, st, go)).2.2.2)) := hD
              have hfm_74d : fm_ok f_72 n_73 (ap_mv ((ap_mk w (ap_tg L C tg 3) x (L, d, st, go)).1) x 3 2) := by rw [ap_leave_1 hmkw9 (by decide)] at hfm_74; exact hfm_74
              refine lv_aload_n hx hb dX2_request_190 rfl (lv_at hl 2 rfl) ?_
              refine va_get (D := (dC, dI)) (ci := 2) (v := .ref (q 4)) (C := RX2) (T := TX2) (N := 10) hx hb hts hwX2 hown hK hP 0 rfl rfl 4 (by decide) (hts (.fieldLink RX2 19 "ArcCacheModel" "words" "[I") (by decide +kernel)) (fun _ h9 => h9) rfl dX2_request_191 ?_
              refine lv_iload_n hx hb dX2_request_194 rfl (lv_at hl 3 rfl) ?_
              refine lv_aload_n hx hb dX2_request_195 rfl (lv_at hl 2 rfl) ?_
              refine va_get (D := (dC, dI)) (ci := 2) (v := .ref (q 3)) (C := RX2) (T := TX2) (N := 10) hx hb hts hwX2 hown hK hP 0 rfl rfl 3 (by decide) (hts (.fieldLink RX2 16 "ArcCacheModel" "store" "[I") (by decide +kernel)) (fun _ h9 => h9) rfl dX2_request_196 ?_
              refine lv_iload_n hx hb dX2_request_199 rfl (lv_at hl 3 rfl) ?_
              refine va_iald hx hb hK hP 3 2 rfl rfl hx64 dX2_request_200 ?_
              refine va_iast hx hb hK hP hD hS 4 3 rfl rfl hx64 dX2_request_201 (fun H locs hP hD hS => ?_)
              replace hP : va_P (dC, dI) vwCl (cm q ca C f_72 n_73 (upd w x.toNatClampNeg ((ap_mk w (ap_tg L C tg 3) x (L, d, st, go)).2.2.1 x.toNatClampNeg)) ((ap_mk w (ap_tg L C tg 3) x (L, d, st, go)).2.1) ((ap_mk w (ap_tg L C tg 3) x (L, d, st, go)).2.2.1) (ap_tg L C tg 3) hi (mi + (nI 1)) ((ap_mk w (ap_tg L C tg 3) x (L, d, st, go)).2.2.2)) H := hP
              replace hD : va_D A (cm q ca C f_72 n_73 (upd w x.toNatClampNeg ((ap_mk w (ap_tg L C tg 3) x (L, d, st, go)).2.2.1 x.toNatClampNeg)) ((ap_mk w (ap_tg L C tg 3) x (L, d, st, go)).2.1) ((ap_mk w (ap_tg L C tg 3) x (L, d, st, go)).2.2.1) (ap_tg L C tg 3) hi (mi + (nI 1)) ((ap_mk w (ap_tg L C tg 3) x (L, d, st, go)).2.2.2)) := hD
              refine lv_aload_n hx hb dX2_request_202 rfl (lv_at hl 2 rfl) ?_
              refine va_get (D := (dC, dI)) (ci := 2) (v := .ref (q 5)) (C := RX2) (T := TX2) (N := 10) hx hb hts hwX2 hown hK hP 0 rfl rfl 5 (by decide) (hts (.fieldLink RX2 22 "ArcCacheModel" "dirty" "[Z") (by decide +kernel)) (fun _ h9 => h9) rfl dX2_request_203 ?_
              refine lv_iload_n hx hb dX2_request_206 rfl (lv_at hl 3 rfl) ?_
              refine lv_iconst (v := nI 0) hx hb dX2_request_207 (by decide) ?_
              refine va_zast hx hb hK hP hD hS 5 4 rfl rfl hx64 dX2_request_208 (fun H locs hP hD hS => ?_)
              rw [ap_nar0] at hP hD
              replace hP : va_P (dC, dI) vwCl (cm q ca C f_72 n_73 (upd w x.toNatClampNeg ((ap_mk w (ap_tg L C tg 3) x (L, d, st, go)).2.2.1 x.toNatClampNeg)) (upd ((ap_mk w (ap_tg L C tg 3) x (L, d, st, go)).2.1) x.toNatClampNeg 0) ((ap_mk w (ap_tg L C tg 3) x (L, d, st, go)).2.2.1) (ap_tg L C tg 3) hi (mi + (nI 1)) ((ap_mk w (ap_tg L C tg 3) x (L, d, st, go)).2.2.2)) H := hP
              replace hD : va_D A (cm q ca C f_72 n_73 (upd w x.toNatClampNeg ((ap_mk w (ap_tg L C tg 3) x (L, d, st, go)).2.2.1 x.toNatClampNeg)) (upd ((ap_mk w (ap_tg L C tg 3) x (L, d, st, go)).2.1) x.toNatClampNeg 0) ((ap_mk w (ap_tg L C tg 3) x (L, d, st, go)).2.2.1) (ap_tg L C tg 3) hi (mi + (nI 1)) ((ap_mk w (ap_tg L C tg 3) x (L, d, st, go)).2.2.2)) := hD
              exact W.vret hx hb hr (fun t ht hW => ⟨⟨(ap_mv (ap_mk w (ap_tg L C tg 3) x (L, d, st, go)).1 x 3 2, upd w x.toNatClampNeg ((ap_mk w (ap_tg L C tg 3) x (L, d, st, go)).2.2.1 x.toNatClampNeg), upd (ap_mk w (ap_tg L C tg 3) x (L, d, st, go)).2.1 x.toNatClampNeg 0, (ap_mk w (ap_tg L C tg 3) x (L, d, st, go)).2.2.1, ap_tg L C tg 3, hi, mi + 1, (ap_mk w (ap_tg L C tg 3) x (L, d, st, go)).2.2.2), rfl, hfin9, f_72, n_73, hfm_74d, by rw [ht]; exact hP, va_K.moved hW.alike hK, hD⟩, hS.F ht⟩) hS.2.2 dX2_request_209
            · skip
              replace c_168 : 3 = 0 := (nI_eq (a := 3) (b := 0) (by omega) (by omega)).mp c_168
              exact absurd c_168 (by omega)
          · skip
            replace c_90 : ¬ ((tg + 1) ≤ C) := fun h9 => c_90 ((nI_leI (a := tg + 1) (b := C) (by omega) (by omega)).mpr h9)
            refine lv_aload_n hx hb dX2_request_93 rfl (lv_at hl 2 rfl) ?_
            refine va_get (D := (dC, dI)) (ci := 2) (v := .int (nI C)) (C := RX2) (T := TX2) (N := 10) hx hb hts hwX2 hown hK hP 0 rfl rfl 0 (by decide) (hts (.fieldLink RX2 26 "ArcCacheModel" "pages" "I") (by decide +kernel)) (fun _ h9 => h9) rfl dX2_request_94 ?_
            refine lv_goto (tgt := 104) hx hb dX2_request_97 (by decide) ?_
            refine lv_topi (fun x_75 e_x_75 => ?_)
            have e_x_75 : x_75 = nI (ap_tg L C tg 3) := by rw [e_x_75]; exact congrArg nI (by show _ = min C (tg + max 1 ((L 4).length / (L 3).length)); rw [← eq9]; omega)
            subst e_x_75
            refine va_put (D := (dC, dI)) (ci := 2) (v := .int (nI (ap_tg L C tg 3))) (ty := .int) (C := RX2) (T := TX2) (N := 10) hx hb hts hwX2 tyX2 tyX2_ok nmX2 hown hK hP hD hS 0 rfl rfl 6 (by decide) (hts (.fieldLink RX2 30 "ArcCacheModel" "target" "I") (by decide +kernel)) (fun _ h9 => h9) rfl (by decide +kernel) rfl rfl (Nat.le_of_ble_eq_true rfl) dX2_request_104 (fun H locs hP hD hS => ?_)
            replace hP : va_P (dC, dI) vwCl (cm q ca C f_1 n_2 w d st (ap_tg L C tg 3) hi (mi + (nI 1)) go) H := hP
            replace hD : va_D A (cm q ca C f_1 n_2 w d st (ap_tg L C tg 3) hi (mi + (nI 1)) go) := hD
            refine lv_goto (tgt := 167) hx hb dX2_request_107 (by decide) ?_
            refine lv_iload_n hx hb dX2_request_167 rfl (lv_at hl 1 rfl) ?_
            refine lv_if_ne (tgt := 179) hx hb dX2_request_168 (by decide) (fun c_168 => ?_) (fun c_168 => ?_)
            · skip
              replace c_168 : ¬ (3 = 0) := fun h9 => c_168 ((nI_eq (a := 3) (b := 0) (by omega) (by omega)).mpr h9)
              refine lv_aload_n hx hb dX2_request_179 rfl (lv_at hl 2 rfl) ?_
              refine lv_iload_n hx hb dX2_request_180 rfl (lv_at hl 3 rfl) ?_
              have hfin9 : (ap_mv (ap_mk w (ap_tg L C tg 3) x (L, d, st, go)).1 x 3 2, upd w x.toNatClampNeg ((ap_mk w (ap_tg L C tg 3) x (L, d, st, go)).2.2.1 x.toNatClampNeg), upd (ap_mk w (ap_tg L C tg 3) x (L, d, st, go)).2.1 x.toNatClampNeg 0, (ap_mk w (ap_tg L C tg 3) x (L, d, st, go)).2.2.1, ap_tg L C tg 3, hi, mi + 1, (ap_mk w (ap_tg L C tg 3) x (L, d, st, go)).2.2.2) = ap_rq C x (L, w, d, st, tg, hi, mi, go) := by rw [ap_rq_old ek9 (Or.inl rfl)]
              have htgle9 : ap_tg L C tg 3 ≤ C := ap_tg_le htg
              have hmkf9 := ap_mk_facts (w := w) (t := ap_tg L C tg 3) (a := x) (S := (L, d, st, go)) hI
              have hmki9 : ap_inv (ap_mk w (ap_tg L C tg 3) x (L, d, st, go)).1 := hmkf9.1
              have hmkz9 : ap_tot (ap_mk w (ap_tg L C tg 3) x (L, d, st, go)).1 ≤ 48 := by rw [ap_tot_mk (S := (L, d, st, go)) hI]; exact hz
              have hmkw9 : ap_wl (ap_mk w (ap_tg L C tg 3) x (L, d, st, go)).1 x = 3 := (hmkf9.2.2.2.2 x (by dsimp only; omega) (by dsimp only; omega)).trans ek9
              have hPc := hP.sub (ws' := (cm q ca C f_1 n_2 w d st (ap_tg L C tg 3) hi (mi + (nI 1)) go)) [0, 1, 2, 3, 4, 5] rfl
              have hDc := hD.sub (ws' := (cm q ca C f_1 n_2 w d st (ap_tg L C tg 3) hi (mi + (nI 1)) go)) [0, 1, 2, 3, 4, 5] (by decide) rfl
              have hKc := hK.sub (tys' := (km ca)) [0, 1, 2, 3, 4] rfl
              have hFc := va_free (wc := (cm q ca C f_1 n_2 w d st (ap_tg L C tg 3) hi (mi + (nI 1)) go)) hD hS hA [0, 1, 2, 3, 4, 5] rfl
              refine va_callv (va_runV (As := [.int x]) (rest := []) ⟨hx, hb, hml, hown, hts⟩ (c_M_makeRoom l dC dI q ca C f_1 n_2 w d st (ap_tg L C tg 3) hi (mi + (nI 1)) go L x H.size hfm_3 hI hz (by omega)) (cwV 1 hts gX2_request_X2_makeRoom rfl rfl rfl (by decide +kernel) ⟨Nat.le_of_ble_eq_true rfl, Nat.le_of_ble_eq_true rfl⟩) ⟨fun a U g mk q => by obtain ⟨q0, q1, qP, qK, qD⟩ := q; exact ⟨q0, q1, qP, va_K.moved (u := U) (U := U.calling g mk a) (Vm.Alike.refl U.vm) qK, qD⟩, va_recv hKc hPc (ci := 2) (q0 := 0) rfl rfl, fun U hU hW => ⟨rfl, by rw [hU], by rw [hU]; exact hPc, va_K.moved hW.alike hKc, hDc.weaken (fun _ _ _ _ => trivial)⟩⟩ rfl rfl hl.1 rfl (lv_room (Nat.le_of_ble_eq_true rfl)) dX2_request_181 ⟨Nat.le_of_ble_eq_true rfl, Nat.le_of_ble_eq_true rfl⟩) hS (fun q _ h => hFc q h) hFc (fun u t H1 locs ht hvm hw hB hz1 hk1 hS => ?_)
              obtain ⟨L1, w1, d1, st1, tg1, hi1, mi1, go1⟩ := u
              obtain ⟨f1, n1, hf1, hP1, hK1, hD1⟩ := hB
              rw [ht] at hP1
              obtain ⟨f_76, ef_76⟩ : ∃ z, z = f1 := ⟨_, rfl⟩
              rw [← ef_76] at hf1 hP1 hD1
              clear ef_76 f1
              obtain ⟨n_77, en_77⟩ : ∃ z, z = n1 := ⟨_, rfl⟩
              rw [← en_77] at hf1 hP1 hD1
              clear en_77 n1
              have hfm_78 := hf1
              replace hw := hw.symm
              simp only [ap_tu, Prod.mk.injEq] at hw
              obtain ⟨rfl, rfl, rfl, rfl, rfl, rfl, rfl, rfl⟩ := hw
              obtain ⟨hP, hD⟩ := va_join (wr := []) (w1 := (cm q ca C f_76 n_77 w ((ap_mk w (ap_tg L C tg 3) x (L, d, st, go)).2.1) ((ap_mk w (ap_tg L C tg 3) x (L, d, st, go)).2.2.1) (ap_tg L C tg 3) hi (mi + (nI 1)) ((ap_mk w (ap_tg L C tg 3) x (L, d, st, go)).2.2.2))) hP hD [0, 1, 2, 3, 4, 5] [] rfl rfl (by decide) (by decide) hk1 hFc hP1 hD1
              generalize H1 = H at hP hS ⊢
              replace hP : va_P (dC, dI) vwCl (cm q ca C f_76 n_77 w ((ap_mk w (ap_tg L C tg 3) x (L, d, st, go)).2.1) ((ap_mk w (ap_tg L C tg 3) x (L, d, st, go)).2.2.1) (ap_tg L C tg 3) hi (mi + (nI 1)) ((ap_mk w (ap_tg L C tg 3) x (L, d, st, go)).2.2.2)) H := hP
              replace hD : va_D A (cm q ca C f_76 n_77 w ((ap_mk w (ap_tg L C tg 3) x (L, d, st, go)).2.1) ((ap_mk w (ap_tg L C tg 3) x (L, d, st, go)).2.2.1) (ap_tg L C tg 3) hi (mi + (nI 1)) ((ap_mk w (ap_tg L C tg 3) x (L, d, st, go)).2.2.2)) := hD
              refine lv_aload_n hx hb dX2_request_184 rfl (lv_at hl 2 rfl) ?_
              refine lv_iload_n hx hb dX2_request_185 rfl (lv_at hl 3 rfl) ?_
              refine lv_iconst (v := nI 2) hx hb dX2_request_186 (by decide) ?_
              have hPc := hP.sub (ws' := (cm q ca C f_76 n_77 w ((ap_mk w (ap_tg L C tg 3) x (L, d, st, go)).2.1) ((ap_mk w (ap_tg L C tg 3) x (L, d, st, go)).2.2.1) (ap_tg L C tg 3) hi (mi + (nI 1)) ((ap_mk w (ap_tg L C tg 3) x (L, d, st, go)).2.2.2))) [0, 1, 2, 3, 4, 5] rfl
              have hDc := hD.sub (ws' := (cm q ca C f_76 n_77 w ((ap_mk w (ap_tg L C tg 3) x (L, d, st, go)).2.1) ((ap_mk w (ap_tg L C tg 3) x (L, d, st, go)).2.2.1) (ap_tg L C tg 3) hi (mi + (nI 1)) ((ap_mk w (ap_tg L C tg 3) x (L, d, st, go)).2.2.2))) [0, 1, 2, 3, 4, 5] (by decide) rfl
              have hKc := hK.sub (tys' := (km ca)) [0, 1, 2, 3, 4] rfl
              have hFc := va_free (wc := (cm q ca C f_76 n_77 w ((ap_mk w (ap_tg L C tg 3) x (L, d, st, go)).2.1) ((ap_mk w (ap_tg L C tg 3) x (L, d, st, go)).2.2.1) (ap_tg L C tg 3) hi (mi + (nI 1)) ((ap_mk w (ap_tg L C tg 3) x (L, d, st, go)).2.2.2))) hD hS hA [0, 1, 2, 3, 4, 5] rfl
              refine va_callv (va_runV (As := [.int x, .int (nI 2)]) (rest := []) ⟨hx, hb, hml, hown, hts⟩ (c_M_come l dC dI q ca C f_76 n_77 w ((ap_mk w (ap_tg L C tg 3) x (L, d, st, go)).2.1) ((ap_mk w (ap_tg L C tg 3) x (L, d, st, go)).2.2.1) (ap_tg L C tg 3) hi (mi + (nI 1)) ((ap_mk w (ap_tg L C tg 3) x (L, d, st, go)).2.2.2) ((ap_mk w (ap_tg L C tg 3) x (L, d, st, go)).1) x 2 H.size hfm_78 hmki9 hmkz9 (by decide) (by decide)) (cwV 2 hts gX2_request_X2_come rfl rfl rfl (by decide +kernel) ⟨Nat.le_of_ble_eq_true rfl, Nat.le_of_ble_eq_true rfl⟩) ⟨fun a U g mk q => by obtain ⟨q0, q1, qP, qK, qD⟩ := q; exact ⟨q0, q1, qP, va_K.moved (u := U) (U := U.calling g mk a) (Vm.Alike.refl U.vm) qK, qD⟩, va_recv hKc hPc (ci := 2) (q0 := 0) rfl rfl, fun U hU hW => ⟨rfl, by rw [hU], by rw [hU]; exact hPc, va_K.moved hW.alike hKc, hDc.weaken (fun _ _ _ _ => trivial)⟩⟩ rfl rfl hl.1 rfl (lv_room (Nat.le_of_ble_eq_true rfl)) dX2_request_187 ⟨Nat.le_of_ble_eq_true rfl, Nat.le_of_ble_eq_true rfl⟩) hS (fun q _ h => hFc q h) hFc (fun u t H1 locs ht hvm hw hB hz1 hk1 hS => ?_)
              obtain ⟨L1, w1, d1, st1, tg1, hi1, mi1, go1⟩ := u
              obtain ⟨f1, n1, hf1, hP1, hK1, hD1⟩ := hB
              rw [ht] at hP1
              cases hw
              obtain ⟨f_79, ef_79⟩ : ∃ z, z = f1 := ⟨_, rfl⟩
              rw [← ef_79] at hf1 hP1 hD1
              clear ef_79 f1
              obtain ⟨n_80, en_80⟩ : ∃ z, z = n1 := ⟨_, rfl⟩
              rw [← en_80] at hf1 hP1 hD1
              clear en_80 n1
              have hfm_81 := hf1
              obtain ⟨hP, hD⟩ := va_join (wr := []) (w1 := (cm q ca C f_79 n_80 w ((ap_mk w (ap_tg L C tg 3) x (L, d, st, go)).2.1) ((ap_mk w (ap_tg L C tg 3) x (L, d, st, go)).2.2.1) (ap_tg L C tg 3) hi (mi + (nI 1)) ((ap_mk w (ap_tg L C tg 3) x (L, d, st, go)).2.2.2))) hP hD [0, 1, 2, 3, 4, 5] [] rfl rfl (by decide) (by decide) hk1 hFc hP1 hD1
              generalize H1 = H at hP hS ⊢
              replace hP : va_P (dC, dI) vwCl (cm q ca C f_79 n_80 w ((ap_mk w (ap_tg L C tg 3) x (L, d, st, go)).2.1) ((ap_mk w (ap_tg L C tg 3) x (L, d, st, go)).2.2.1) (ap_tg L C tg 3) hi (mi + (nI 1)) ((ap_mk w (ap_tg L C tg 3) x (L, d, st, go)).2.2.2)) H := hP
              replace hD : va_D A (cm q ca C f_79 n_80 w ((ap_mk w (ap_tg L C tg 3) x (L, d, st, go)).2.1) ((ap_mk w (ap_tg L C tg 3) x (L, d, st, go)).2.2.1) (ap_tg L C tg 3) hi (mi + (nI 1)) ((ap_mk w (ap_tg L C tg 3) x (L, d, st, go)).2.2.2)) := hD
              have hfm_81d : fm_ok f_79 n_80 (ap_mv ((ap_mk w (ap_tg L C tg 3) x (L, d, st, go)).1) x 3 2) := by rw [ap_leave_1 hmkw9 (by decide)] at hfm_81; exact hfm_81
              refine lv_aload_n hx hb dX2_request_190 rfl (lv_at hl 2 rfl) ?_
              refine va_get (D := (dC, dI)) (ci := 2) (v := .ref (q 4)) (C := RX2) (T := TX2) (N := 10) hx hb hts hwX2 hown hK hP 0 rfl rfl 4 (by decide) (hts (.fieldLink RX2 19 "ArcCacheModel" "words" "[I") (by decide +kernel)) (fun _ h9 => h9) rfl dX2_request_191 ?_
              refine lv_iload_n hx hb dX2_request_194 rfl (lv_at hl 3 rfl) ?_
              refine lv_aload_n hx hb dX2_request_195 rfl (lv_at hl 2 rfl) ?_
              refine va_get (D := (dC, dI)) (ci := 2) (v := .ref (q 3)) (C := RX2) (T := TX2) (N := 10) hx hb hts hwX2 hown hK hP 0 rfl rfl 3 (by decide) (hts (.fieldLink RX2 16 "ArcCacheModel" "store" "[I") (by decide +kernel)) (fun _ h9 => h9) rfl dX2_request_196 ?_
              refine lv_iload_n hx hb dX2_request_199 rfl (lv_at hl 3 rfl) ?_
              refine va_iald hx hb hK hP 3 2 rfl rfl hx64 dX2_request_200 ?_
              refine va_iast hx hb hK hP hD hS 4 3 rfl rfl hx64 dX2_request_201 (fun H locs hP hD hS => ?_)
              replace hP : va_P (dC, dI) vwCl (cm q ca C f_79 n_80 (upd w x.toNatClampNeg ((ap_mk w (ap_tg L C tg 3) x (L, d, st, go)).2.2.1 x.toNatClampNeg)) ((ap_mk w (ap_tg L C tg 3) x (L, d, st, go)).2.1) ((ap_mk w (ap_tg L C tg 3) x (L, d, st, go)).2.2.1) (ap_tg L C tg 3) hi (mi + (nI 1)) ((ap_mk w (ap_tg L C tg 3) x (L, d, st, go)).2.2.2)) H := hP
              replace hD : va_D A (cm q ca C f_79 n_80 (upd w x.toNatClampNeg ((ap_mk w (ap_tg L C tg 3) x (L, d, st, go)).2.2.1 x.toNatClampNeg)) ((ap_mk w (ap_tg L C tg 3) x (L, d, st, go)).2.1) ((ap_mk w (ap_tg L C tg 3) x (L, d, st, go)).2.2.1) (ap_tg L C tg 3) hi (mi + (nI 1)) ((ap_mk w (ap_tg L C tg 3) x (L, d, st, go)).2.2.2)) := hD
              refine lv_aload_n hx hb dX2_request_202 rfl (lv_at hl 2 rfl) ?_
              refine va_get (D := (dC, dI)) (ci := 2) (v := .ref (q 5)) (C := RX2) (T := TX2) (N := 10) hx hb hts hwX2 hown hK hP 0 rfl rfl 5 (by decide) (hts (.fieldLink RX2 22 "ArcCacheModel" "dirty" "[Z") (by decide +kernel)) (fun _ h9 => h9) rfl dX2_request_203 ?_
              refine lv_iload_n hx hb dX2_request_206 rfl (lv_at hl 3 rfl) ?_
              refine lv_iconst (v := nI 0) hx hb dX2_request_207 (by decide) ?_
              refine va_zast hx hb hK hP hD hS 5 4 rfl rfl hx64 dX2_request_208 (fun H locs hP hD hS => ?_)
              rw [ap_nar0] at hP hD
              replace hP : va_P (dC, dI) vwCl (cm q ca C f_79 n_80 (upd w x.toNatClampNeg ((ap_mk w (ap_tg L C tg 3) x (L, d, st, go)).2.2.1 x.toNatClampNeg)) (upd ((ap_mk w (ap_tg L C tg 3) x (L, d, st, go)).2.1) x.toNatClampNeg 0) ((ap_mk w (ap_tg L C tg 3) x (L, d, st, go)).2.2.1) (ap_tg L C tg 3) hi (mi + (nI 1)) ((ap_mk w (ap_tg L C tg 3) x (L, d, st, go)).2.2.2)) H := hP
              replace hD : va_D A (cm q ca C f_79 n_80 (upd w x.toNatClampNeg ((ap_mk w (ap_tg L C tg 3) x (L, d, st, go)).2.2.1 x.toNatClampNeg)) (upd ((ap_mk w (ap_tg L C tg 3) x (L, d, st, go)).2.1) x.toNatClampNeg 0) ((ap_mk w (ap_tg L C tg 3) x (L, d, st, go)).2.2.1) (ap_tg L C tg 3) hi (mi + (nI 1)) ((ap_mk w (ap_tg L C tg 3) x (L, d, st, go)).2.2.2)) := hD
              exact W.vret hx hb hr (fun t ht hW => ⟨⟨(ap_mv (ap_mk w (ap_tg L C tg 3) x (L, d, st, go)).1 x 3 2, upd w x.toNatClampNeg ((ap_mk w (ap_tg L C tg 3) x (L, d, st, go)).2.2.1 x.toNatClampNeg), upd (ap_mk w (ap_tg L C tg 3) x (L, d, st, go)).2.1 x.toNatClampNeg 0, (ap_mk w (ap_tg L C tg 3) x (L, d, st, go)).2.2.1, ap_tg L C tg 3, hi, mi + 1, (ap_mk w (ap_tg L C tg 3) x (L, d, st, go)).2.2.2), rfl, hfin9, f_79, n_80, hfm_81d, by rw [ht]; exact hP, va_K.moved hW.alike hK, hD⟩, hS.F ht⟩) hS.2.2 dX2_request_209
            · skip
              replace c_168 : 3 = 0 := (nI_eq (a := 3) (b := 0) (by omega) (by omega)).mp c_168
              exact absurd c_168 (by omega)
    · skip
      replace c_13 : (ap_wl L x) = 2 := (nI_eq (a := ap_wl L x) (b := 2) (by omega) (by omega)).mp c_13
      have ek9 : ap_wl L x = 2 := by omega
      rw [ek9] at hl
      have hfin9 : (ap_mv L x 2 2, w, d, st, tg, hi + 1, mi, go) = ap_rq C x (L, w, d, st, tg, hi, mi, go) := by rw [ap_rq_hit (Or.inr ek9), ek9]
      refine lv_aload_n hx hb dX2_request_16 rfl (lv_at hl 1 rfl) ?_
      refine lv_dup hx hb dX2_request_17 rfl ?_
      refine va_get (D := (dC, dI)) (ci := 2) (v := .int hi) (C := RX2) (T := TX2) (N := 10) hx hb hts hwX2 hown hK hP 0 rfl rfl 7 (by decide) (hts (.fieldLink RX2 33 "ArcCacheModel" "hits" "I") (by decide +kernel)) (fun _ h9 => h9) rfl dX2_request_18 ?_
      refine lv_iconst (v := nI 1) hx hb dX2_request_21 (by decide) ?_
      refine lv_iadd hx hb dX2_request_22 ?_
      refine va_put (D := (dC, dI)) (ci := 2) (v := .int (hi + (nI 1))) (ty := .int) (C := RX2) (T := TX2) (N := 10) hx hb hts hwX2 tyX2 tyX2_ok nmX2 hown hK hP hD hS 0 rfl rfl 7 (by decide) (hts (.fieldLink RX2 33 "ArcCacheModel" "hits" "I") (by decide +kernel)) (fun _ h9 => h9) rfl (by decide +kernel) rfl rfl (Nat.le_of_ble_eq_true rfl) dX2_request_23 (fun H locs hP hD hS => ?_)
      replace hP : va_P (dC, dI) vwCl (cm q ca C f_1 n_2 w d st tg (hi + (nI 1)) mi go) H := hP
      replace hD : va_D A (cm q ca C f_1 n_2 w d st tg (hi + (nI 1)) mi go) := hD
      refine lv_aload_n hx hb dX2_request_26 rfl (lv_at hl 1 rfl) ?_
      refine lv_iload_n hx hb dX2_request_27 rfl (lv_at hl 2 rfl) ?_
      refine lv_iconst (v := nI 2) hx hb dX2_request_28 (by decide) ?_
      have hPc := hP.sub (ws' := (cm q ca C f_1 n_2 w d st tg (hi + (nI 1)) mi go)) [0, 1, 2, 3, 4, 5] rfl
      have hDc := hD.sub (ws' := (cm q ca C f_1 n_2 w d st tg (hi + (nI 1)) mi go)) [0, 1, 2, 3, 4, 5] (by decide) rfl
      have hKc := hK.sub (tys' := (km ca)) [0, 1, 2, 3, 4] rfl
      have hFc := va_free (wc := (cm q ca C f_1 n_2 w d st tg (hi + (nI 1)) mi go)) hD hS hA [0, 1, 2, 3, 4, 5] rfl
      refine va_callv (va_runV (As := [.int x, .int (nI 2)]) (rest := []) ⟨hx, hb, hml, hown, hts⟩ (c_M_come l dC dI q ca C f_1 n_2 w d st tg (hi + (nI 1)) mi go L x 2 H.size hfm_3 hI hz (by decide) (by decide)) (cwV 2 hts gX2_request_X2_come rfl rfl rfl (by decide +kernel) ⟨Nat.le_of_ble_eq_true rfl, Nat.le_of_ble_eq_true rfl⟩) ⟨fun a U g mk q => by obtain ⟨q0, q1, qP, qK, qD⟩ := q; exact ⟨q0, q1, qP, va_K.moved (u := U) (U := U.calling g mk a) (Vm.Alike.refl U.vm) qK, qD⟩, va_recv hKc hPc (ci := 2) (q0 := 0) rfl rfl, fun U hU hW => ⟨rfl, by rw [hU], by rw [hU]; exact hPc, va_K.moved hW.alike hKc, hDc.weaken (fun _ _ _ _ => trivial)⟩⟩ rfl rfl hl.1 rfl (lv_room (Nat.le_of_ble_eq_true rfl)) dX2_request_29 ⟨Nat.le_of_ble_eq_true rfl, Nat.le_of_ble_eq_true rfl⟩) hS (fun q _ h => hFc q h) hFc (fun u t H1 locs ht hvm hw hB hz1 hk1 hS => ?_)
      obtain ⟨L1, w1, d1, st1, tg1, hi1, mi1, go1⟩ := u
      obtain ⟨f1, n1, hf1, hP1, hK1, hD1⟩ := hB
      rw [ht] at hP1
      cases hw
      obtain ⟨f_82, ef_82⟩ : ∃ z, z = f1 := ⟨_, rfl⟩
      rw [← ef_82] at hf1 hP1 hD1
      clear ef_82 f1
      obtain ⟨n_83, en_83⟩ : ∃ z, z = n1 := ⟨_, rfl⟩
      rw [← en_83] at hf1 hP1 hD1
      clear en_83 n1
      have hfm_84 := hf1
      obtain ⟨hP, hD⟩ := va_join (wr := []) (w1 := (cm q ca C f_82 n_83 w d st tg (hi + (nI 1)) mi go)) hP hD [0, 1, 2, 3, 4, 5] [] rfl rfl (by decide) (by decide) hk1 hFc hP1 hD1
      generalize H1 = H at hP hS ⊢
      replace hP : va_P (dC, dI) vwCl (cm q ca C f_82 n_83 w d st tg (hi + (nI 1)) mi go) H := hP
      replace hD : va_D A (cm q ca C f_82 n_83 w d st tg (hi + (nI 1)) mi go) := hD
      have hfm_84d : fm_ok f_82 n_83 (ap_mv L x 2 2) := by rw [ap_leave_1 ek9 (by decide)] at hfm_84; exact hfm_84
      exact W.vret hx hb hr (fun t ht hW => ⟨⟨(ap_mv L x 2 2, w, d, st, tg, hi + 1, mi, go), rfl, hfin9, f_82, n_83, hfm_84d, by rw [ht]; exact hP, va_K.moved hW.alike hK, hD⟩, hS.F ht⟩) hS.2.2 dX2_request_32
set_option maxHeartbeats 4000000 in
set_option maxRecDepth 100000 in
theorem c_M_target (l : Launch) (dC : Nat → ClassId) (dI : Nat → Nat → Nat) (q : Nat → Nat) (ca : Nat → ClassId) (C : Nat) (f n w d st : Nat → Int32) (tg : Nat) (hi mi go : Int32) (L : Nat → List Int32)  (sz : Nat) (hfm : fm_ok f n L) : Met l yX2_target wsX2_target ({ frames := 0, cells := 0, slots := 0, locals := 0 }) (va_Pc [.ref (q 0)] (fun U => U.heap.size = sz ∧ va_P (dC, dI) vwCl (cm q ca C f n w d st tg hi mi go) U.heap ∧ va_K (dC, dI) vwCl (km ca) U ∧ va_D (fun _ => True) (cm q ca C f n w d st tg hi mi go))) (va_Qi (fun (r : Int32) (u : ap_U) => r = nI tg ∧ u = (L, w, d, st, tg, hi, mi, go)) (at_M dC dI (va_A (cm q ca C f n w d st tg hi mi go) sz) q ca C) (va_A (cm q ca C f n w d st tg hi mi go) sz)) 0 0 (va_A (cm q ca C f n w d st tg hi mi go) sz) := by
  refine Met.ofW (cc := cX2_target) (maxL := 1) (ret := (some .int)) (by decide) rfl ?_
  intro p e s m args below meth c s₁ B hml hv
  obtain ⟨rfl, hsz, hP, hK, hD0⟩ := hv
  have hx := B.exec
  have hb := B.bytes
  have hr := B.returns
  have hts := atoms_spec (ws := wsX2_target) B.pre
  have hown : s.vm.findClass RX2 = some m.cls := findClass_of_methodNamed B.named
  have hlocks := B.notSynchronized
  have hwX2 : ∀ w ∈ u_ws RX2 TX2 10, w ∈ wsX2_target := by decide +kernel
  subst hsz
  have hD := hD0.self (sz := s.heap.size)
  generalize hAe : va_A (cm q ca C f n w d st tg hi mi go) s.heap.size = A at hD ⊢
  have hA : ∀ q : Nat, s.heap.size ≤ q → A q := fun q h => by rw [← hAe]; exact Or.inr h
  have hS0 : ∀ H, s.heap = H → va_S A s.heap H [] := fun H h => by subst h; exact va_S.rf
  have hl := lv_entry ([.ref (q 0)]) (n := 1) (Nat.le_of_ble_eq_true rfl)
  rw [lg_entry_eq]
  generalize (lg_sl ([.ref (q 0)]) ++ List.replicate (1 - (lg_sl ([.ref (q 0)])).length) Slot.unset).toArray = ls at hl ⊢
  have hl : lv_has ls 1 [(0, .ref (q 0))] := hl
  generalize hHe : s.heap = H at hP ⊢
  have hS := hS0 H hHe
  refine lv_aload_n hx hb dX2_target_0 rfl (lv_at hl 0 rfl) ?_
  refine va_get (D := (dC, dI)) (ci := 2) (v := .int (nI tg)) (C := RX2) (T := TX2) (N := 10) hx hb hts hwX2 hown hK hP 0 rfl rfl 6 (by decide) (hts (.fieldLink RX2 30 "ArcCacheModel" "target" "I") (by decide +kernel)) (fun _ h9 => h9) rfl dX2_target_1 ?_
  exact W.iret (v := nI tg) hx hb hr (fun t ht hW => ⟨⟨nI tg, (L, w, d, st, tg, hi, mi, go), rfl, ⟨rfl, rfl⟩, f, n, hfm, by rw [ht]; exact hP, va_K.moved hW.alike hK, hD⟩, hS.F ht⟩) hS.2.2 dX2_target_4
set_option maxHeartbeats 4000000 in
set_option maxRecDepth 100000 in
theorem c_M_hits (l : Launch) (dC : Nat → ClassId) (dI : Nat → Nat → Nat) (q : Nat → Nat) (ca : Nat → ClassId) (C : Nat) (f n w d st : Nat → Int32) (tg : Nat) (hi mi go : Int32) (L : Nat → List Int32)  (sz : Nat) (hfm : fm_ok f n L) : Met l yX2_hits wsX2_hits ({ frames := 0, cells := 0, slots := 0, locals := 0 }) (va_Pc [.ref (q 0)] (fun U => U.heap.size = sz ∧ va_P (dC, dI) vwCl (cm q ca C f n w d st tg hi mi go) U.heap ∧ va_K (dC, dI) vwCl (km ca) U ∧ va_D (fun _ => True) (cm q ca C f n w d st tg hi mi go))) (va_Qi (fun (r : Int32) (u : ap_U) => r = hi ∧ u = (L, w, d, st, tg, hi, mi, go)) (at_M dC dI (va_A (cm q ca C f n w d st tg hi mi go) sz) q ca C) (va_A (cm q ca C f n w d st tg hi mi go) sz)) 0 0 (va_A (cm q ca C f n w d st tg hi mi go) sz) := by
  refine Met.ofW (cc := cX2_hits) (maxL := 1) (ret := (some .int)) (by decide) rfl ?_
  intro p e s m args below meth c s₁ B hml hv
  obtain ⟨rfl, hsz, hP, hK, hD0⟩ := hv
  have hx := B.exec
  have hb := B.bytes
  have hr := B.returns
  have hts := atoms_spec (ws := wsX2_hits) B.pre
  have hown : s.vm.findClass RX2 = some m.cls := findClass_of_methodNamed B.named
  have hlocks := B.notSynchronized
  have hwX2 : ∀ w ∈ u_ws RX2 TX2 10, w ∈ wsX2_hits := by decide +kernel
  subst hsz
  have hD := hD0.self (sz := s.heap.size)
  generalize hAe : va_A (cm q ca C f n w d st tg hi mi go) s.heap.size = A at hD ⊢
  have hA : ∀ q : Nat, s.heap.size ≤ q → A q := fun q h => by rw [← hAe]; exact Or.inr h
  have hS0 : ∀ H, s.heap = H → va_S A s.heap H [] := fun H h => by subst h; exact va_S.rf
  have hl := lv_entry ([.ref (q 0)]) (n := 1) (Nat.le_of_ble_eq_true rfl)
  rw [lg_entry_eq]
  generalize (lg_sl ([.ref (q 0)]) ++ List.replicate (1 - (lg_sl ([.ref (q 0)])).length) Slot.unset).toArray = ls at hl ⊢
  have hl : lv_has ls 1 [(0, .ref (q 0))] := hl
  generalize hHe : s.heap = H at hP ⊢
  have hS := hS0 H hHe
  refine lv_aload_n hx hb dX2_hits_0 rfl (lv_at hl 0 rfl) ?_
  refine va_get (D := (dC, dI)) (ci := 2) (v := .int hi) (C := RX2) (T := TX2) (N := 10) hx hb hts hwX2 hown hK hP 0 rfl rfl 7 (by decide) (hts (.fieldLink RX2 33 "ArcCacheModel" "hits" "I") (by decide +kernel)) (fun _ h9 => h9) rfl dX2_hits_1 ?_
  exact W.iret (v := hi) hx hb hr (fun t ht hW => ⟨⟨hi, (L, w, d, st, tg, hi, mi, go), rfl, ⟨rfl, rfl⟩, f, n, hfm, by rw [ht]; exact hP, va_K.moved hW.alike hK, hD⟩, hS.F ht⟩) hS.2.2 dX2_hits_4
set_option maxHeartbeats 4000000 in
set_option maxRecDepth 100000 in
theorem c_M_misses (l : Launch) (dC : Nat → ClassId) (dI : Nat → Nat → Nat) (q : Nat → Nat) (ca : Nat → ClassId) (C : Nat) (f n w d st : Nat → Int32) (tg : Nat) (hi mi go : Int32) (L : Nat → List Int32)  (sz : Nat) (hfm : fm_ok f n L) : Met l yX2_misses wsX2_misses ({ frames := 0, cells := 0, slots := 0, locals := 0 }) (va_Pc [.ref (q 0)] (fun U => U.heap.size = sz ∧ va_P (dC, dI) vwCl (cm q ca C f n w d st tg hi mi go) U.heap ∧ va_K (dC, dI) vwCl (km ca) U ∧ va_D (fun _ => True) (cm q ca C f n w d st tg hi mi go))) (va_Qi (fun (r : Int32) (u : ap_U) => r = mi ∧ u = (L, w, d, st, tg, hi, mi, go)) (at_M dC dI (va_A (cm q ca C f n w d st tg hi mi go) sz) q ca C) (va_A (cm q ca C f n w d st tg hi mi go) sz)) 0 0 (va_A (cm q ca C f n w d st tg hi mi go) sz) := by
  refine Met.ofW (cc := cX2_misses) (maxL := 1) (ret := (some .int)) (by decide) rfl ?_
  intro p e s m args below meth c s₁ B hml hv
  obtain ⟨rfl, hsz, hP, hK, hD0⟩ := hv
  have hx := B.exec
  have hb := B.bytes
  have hr := B.returns
  have hts := atoms_spec (ws := wsX2_misses) B.pre
  have hown : s.vm.findClass RX2 = some m.cls := findClass_of_methodNamed B.named
  have hlocks := B.notSynchronized
  have hwX2 : ∀ w ∈ u_ws RX2 TX2 10, w ∈ wsX2_misses := by decide +kernel
  subst hsz
  have hD := hD0.self (sz := s.heap.size)
  generalize hAe : va_A (cm q ca C f n w d st tg hi mi go) s.heap.size = A at hD ⊢
  have hA : ∀ q : Nat, s.heap.size ≤ q → A q := fun q h => by rw [← hAe]; exact Or.inr h
  have hS0 : ∀ H, s.heap = H → va_S A s.heap H [] := fun H h => by subst h; exact va_S.rf
  have hl := lv_entry ([.ref (q 0)]) (n := 1) (Nat.le_of_ble_eq_true rfl)
  rw [lg_entry_eq]
  generalize (lg_sl ([.ref (q 0)]) ++ List.replicate (1 - (lg_sl ([.ref (q 0)])).length) Slot.unset).toArray = ls at hl ⊢
  have hl : lv_has ls 1 [(0, .ref (q 0))] := hl
  generalize hHe : s.heap = H at hP ⊢
  have hS := hS0 H hHe
  refine lv_aload_n hx hb dX2_misses_0 rfl (lv_at hl 0 rfl) ?_
  refine va_get (D := (dC, dI)) (ci := 2) (v := .int mi) (C := RX2) (T := TX2) (N := 10) hx hb hts hwX2 hown hK hP 0 rfl rfl 8 (by decide) (hts (.fieldLink RX2 36 "ArcCacheModel" "misses" "I") (by decide +kernel)) (fun _ h9 => h9) rfl dX2_misses_1 ?_
  exact W.iret (v := mi) hx hb hr (fun t ht hW => ⟨⟨mi, (L, w, d, st, tg, hi, mi, go), rfl, ⟨rfl, rfl⟩, f, n, hfm, by rw [ht]; exact hP, va_K.moved hW.alike hK, hD⟩, hS.F ht⟩) hS.2.2 dX2_misses_4
set_option maxHeartbeats 4000000 in
set_option maxRecDepth 100000 in
theorem c_M_gone (l : Launch) (dC : Nat → ClassId) (dI : Nat → Nat → Nat) (q : Nat → Nat) (ca : Nat → ClassId) (C : Nat) (f n w d st : Nat → Int32) (tg : Nat) (hi mi go : Int32) (L : Nat → List Int32)  (sz : Nat) (hfm : fm_ok f n L) : Met l yX2_gone wsX2_gone ({ frames := 0, cells := 0, slots := 0, locals := 0 }) (va_Pc [.ref (q 0)] (fun U => U.heap.size = sz ∧ va_P (dC, dI) vwCl (cm q ca C f n w d st tg hi mi go) U.heap ∧ va_K (dC, dI) vwCl (km ca) U ∧ va_D (fun _ => True) (cm q ca C f n w d st tg hi mi go))) (va_Qi (fun (r : Int32) (u : ap_U) => r = go ∧ u = (L, w, d, st, tg, hi, mi, go)) (at_M dC dI (va_A (cm q ca C f n w d st tg hi mi go) sz) q ca C) (va_A (cm q ca C f n w d st tg hi mi go) sz)) 0 0 (va_A (cm q ca C f n w d st tg hi mi go) sz) := by
  refine Met.ofW (cc := cX2_gone) (maxL := 1) (ret := (some .int)) (by decide) rfl ?_
  intro p e s m args below meth c s₁ B hml hv
  obtain ⟨rfl, hsz, hP, hK, hD0⟩ := hv
  have hx := B.exec
  have hb := B.bytes
  have hr := B.returns
  have hts := atoms_spec (ws := wsX2_gone) B.pre
  have hown : s.vm.findClass RX2 = some m.cls := findClass_of_methodNamed B.named
  have hlocks := B.notSynchronized
  have hwX2 : ∀ w ∈ u_ws RX2 TX2 10, w ∈ wsX2_gone := by decide +kernel
  subst hsz
  have hD := hD0.self (sz := s.heap.size)
  generalize hAe : va_A (cm q ca C f n w d st tg hi mi go) s.heap.size = A at hD ⊢
  have hA : ∀ q : Nat, s.heap.size ≤ q → A q := fun q h => by rw [← hAe]; exact Or.inr h
  have hS0 : ∀ H, s.heap = H → va_S A s.heap H [] := fun H h => by subst h; exact va_S.rf
  have hl := lv_entry ([.ref (q 0)]) (n := 1) (Nat.le_of_ble_eq_true rfl)
  rw [lg_entry_eq]
  generalize (lg_sl ([.ref (q 0)]) ++ List.replicate (1 - (lg_sl ([.ref (q 0)])).length) Slot.unset).toArray = ls at hl ⊢
  have hl : lv_has ls 1 [(0, .ref (q 0))] := hl
  generalize hHe : s.heap = H at hP ⊢
  have hS := hS0 H hHe
  refine lv_aload_n hx hb dX2_gone_0 rfl (lv_at hl 0 rfl) ?_
  refine va_get (D := (dC, dI)) (ci := 2) (v := .int go) (C := RX2) (T := TX2) (N := 10) hx hb hts hwX2 hown hK hP 0 rfl rfl 9 (by decide) (hts (.fieldLink RX2 39 "ArcCacheModel" "gone" "I") (by decide +kernel)) (fun _ h9 => h9) rfl dX2_gone_1 ?_
  exact W.iret (v := go) hx hb hr (fun t ht hW => ⟨⟨go, (L, w, d, st, tg, hi, mi, go), rfl, ⟨rfl, rfl⟩, f, n, hfm, by rw [ht]; exact hP, va_K.moved hW.alike hK, hD⟩, hS.F ht⟩) hS.2.2 dX2_gone_4
set_option maxHeartbeats 4000000 in
set_option maxRecDepth 100000 in
theorem c_M_store (l : Launch) (dC : Nat → ClassId) (dI : Nat → Nat → Nat) (q : Nat → Nat) (ca : Nat → ClassId) (C : Nat) (f n w d st : Nat → Int32) (tg : Nat) (hi mi go : Int32) (L : Nat → List Int32) (x : Int32) (sz : Nat) (hfm : fm_ok f n L) : Met l yX2_store wsX2_store ({ frames := 1, cells := 0, slots := 0, locals := 20 }) (va_Pc [.ref (q 0), .int x] (fun U => U.heap.size = sz ∧ va_P (dC, dI) vwCl (cm q ca C f n w d st tg hi mi go) U.heap ∧ va_K (dC, dI) vwCl (km ca) U ∧ va_D (fun _ => True) (cm q ca C f n w d st tg hi mi go))) (va_Qi (fun (r : Int32) (u : ap_U) => r = ap_st st x ∧ u = (L, w, d, st, tg, hi, mi, go)) (at_M dC dI (va_A (cm q ca C f n w d st tg hi mi go) sz) q ca C) (va_A (cm q ca C f n w d st tg hi mi go) sz)) 0 0 (va_A (cm q ca C f n w d st tg hi mi go) sz) := by
  refine Met.ofW (cc := cX2_store) (maxL := 2) (ret := (some .int)) (by decide) rfl ?_
  intro p e s m args below meth c s₁ B hml hv
  obtain ⟨rfl, hsz, hP, hK, hD0⟩ := hv
  have hx := B.exec
  have hb := B.bytes
  have hr := B.returns
  have hts := atoms_spec (ws := wsX2_store) B.pre
  have hown : s.vm.findClass RX2 = some m.cls := findClass_of_methodNamed B.named
  have hlocks := B.notSynchronized
  have hwX2 : ∀ w ∈ u_ws RX2 TX2 10, w ∈ wsX2_store := by decide +kernel
  subst hsz
  have hD := hD0.self (sz := s.heap.size)
  generalize hAe : va_A (cm q ca C f n w d st tg hi mi go) s.heap.size = A at hD ⊢
  have hA : ∀ q : Nat, s.heap.size ≤ q → A q := fun q h => by rw [← hAe]; exact Or.inr h
  have hS0 : ∀ H, s.heap = H → va_S A s.heap H [] := fun H h => by subst h; exact va_S.rf
  have hl := lv_entry ([.ref (q 0), .int x]) (n := 2) (Nat.le_of_ble_eq_true rfl)
  rw [lg_entry_eq]
  generalize (lg_sl ([.ref (q 0), .int x]) ++ List.replicate (2 - (lg_sl ([.ref (q 0), .int x])).length) Slot.unset).toArray = ls at hl ⊢
  have hl : lv_has ls 2 [(0, .ref (q 0)), (1, .int x)] := hl
  generalize hHe : s.heap = H at hP ⊢
  have hS := hS0 H hHe
  refine lv_iload_n hx hb dX2_store_0 rfl (lv_at hl 1 rfl) ?_
  have hPc := hP.sub (ws' := []) [] rfl
  have hDc := hD.sub (ws' := []) [] (by decide) rfl
  have hFc := va_free (wc := []) hD hS hA [] rfl
  refine va_calli (va_runS (As := [.int x]) (rest := []) ⟨hx, hb, hml, hown, hts⟩ (c_M_isAddress l dC dI x H.size) (va_cwS 1 hts gX2_store_X2_isAddress rfl rfl rfl (by decide +kernel) ⟨Nat.le_of_ble_eq_true rfl, Nat.le_of_ble_eq_true rfl⟩) ⟨fun a U g mk q => by obtain ⟨q0, q1⟩ := q; exact ⟨q0, q1⟩, fun U hU hW => ⟨rfl, by show U.heap.size = _; rw [hU]⟩⟩ rfl rfl hl.1 rfl (lv_room (Nat.le_of_ble_eq_true rfl)) dX2_store_1 ⟨Nat.le_of_ble_eq_true rfl, Nat.le_of_ble_eq_true rfl⟩) hS (fun q _ h => hFc q h) hFc (fun r u t H1 locs ht hvm hw hB hz1 hk1 hS => ?_)
  obtain ⟨hP, hD⟩ := va_join (wr := (cm q ca C f n w d st tg hi mi go)) (w1 := []) hP hD [] [0, 1, 2, 3, 4, 5] rfl rfl (by decide) (by decide) hk1 hFc (fun k q h => by simp at h) ⟨fun i j p q h => by simp at h, fun k q h => by simp at h⟩
  generalize H1 = H at hP hS ⊢
  replace hP : va_P (dC, dI) vwCl (cm q ca C f n w d st tg hi mi go) H := hP
  replace hD : va_D A (cm q ca C f n w d st tg hi mi go) := hD
  by_cases hyes9 : x < 0 ∨ nI 64 ≤ x
  · rw [if_pos hyes9] at hw
    subst hw
    refine lv_if_eq (tgt := 16) hx hb dX2_store_4 (by decide) (fun c_4 => ?_) (fun c_4 => ?_)
    · skip
      replace c_4 : 0 = 0 := (nI_eq (a := 0) (b := 0) (by omega) (by omega)).mp c_4
      refine lv_iconst (v := nI 0) hx hb dX2_store_16 (by decide) ?_
      exact W.iret (v := nI 0) hx hb hr (fun t ht hW => ⟨⟨nI 0, (L, w, d, st, tg, hi, mi, go), rfl, ⟨by unfold ap_st; rw [if_pos hyes9]; rfl, rfl⟩, f, n, hfm, by rw [ht]; exact hP, va_K.moved hW.alike hK, hD⟩, hS.F ht⟩) hS.2.2 dX2_store_17
    · skip
      replace c_4 : ¬ (0 = 0) := fun h9 => c_4 ((nI_eq (a := 0) (b := 0) (by omega) (by omega)).mpr h9)
      exact absurd c_4 (by omega)
  · have hno9 := hyes9
    rw [if_neg hno9] at hw
    subst hw
    have hx64 : vp_in x 64 := vp_in_64.mpr hno9
    refine lv_if_eq (tgt := 16) hx hb dX2_store_4 (by decide) (fun c_4 => ?_) (fun c_4 => ?_)
    · skip
      replace c_4 : 1 = 0 := (nI_eq (a := 1) (b := 0) (by omega) (by omega)).mp c_4
      exact absurd c_4 (by omega)
    · skip
      replace c_4 : ¬ (1 = 0) := fun h9 => c_4 ((nI_eq (a := 1) (b := 0) (by omega) (by omega)).mpr h9)
      refine lv_aload_n hx hb dX2_store_7 rfl (lv_at hl 0 rfl) ?_
      refine va_get (D := (dC, dI)) (ci := 2) (v := .ref (q 3)) (C := RX2) (T := TX2) (N := 10) hx hb hts hwX2 hown hK hP 0 rfl rfl 3 (by decide) (hts (.fieldLink RX2 16 "ArcCacheModel" "store" "[I") (by decide +kernel)) (fun _ h9 => h9) rfl dX2_store_8 ?_
      refine lv_iload_n hx hb dX2_store_11 rfl (lv_at hl 1 rfl) ?_
      refine va_iald hx hb hK hP 3 2 rfl rfl hx64 dX2_store_12 ?_
      refine lv_goto (tgt := 17) hx hb dX2_store_13 (by decide) ?_
      exact W.iret (v := st x.toNatClampNeg) hx hb hr (fun t ht hW => ⟨⟨st x.toNatClampNeg, (L, w, d, st, tg, hi, mi, go), rfl, ⟨by unfold ap_st; rw [if_neg hno9], rfl⟩, f, n, hfm, by rw [ht]; exact hP, va_K.moved hW.alike hK, hD⟩, hS.F ht⟩) hS.2.2 dX2_store_17
set_option maxHeartbeats 4000000 in
set_option maxRecDepth 100000 in
theorem c_M_isDirty (l : Launch) (dC : Nat → ClassId) (dI : Nat → Nat → Nat) (q : Nat → Nat) (ca : Nat → ClassId) (C : Nat) (f n w d st : Nat → Int32) (tg : Nat) (hi mi go : Int32) (L : Nat → List Int32) (x : Int32) (sz : Nat) (hfm : fm_ok f n L) : Met l yX2_isDirty wsX2_isDirty ({ frames := 1, cells := 0, slots := 0, locals := 20 }) (va_Pc [.ref (q 0), .int x] (fun U => U.heap.size = sz ∧ va_P (dC, dI) vwCl (cm q ca C f n w d st tg hi mi go) U.heap ∧ va_K (dC, dI) vwCl (km ca) U ∧ va_D (fun _ => True) (cm q ca C f n w d st tg hi mi go))) (va_Qi (fun (r : Int32) (u : ap_U) => r = ap_dy d x ∧ u = (L, w, d, st, tg, hi, mi, go)) (at_M dC dI (va_A (cm q ca C f n w d st tg hi mi go) sz) q ca C) (va_A (cm q ca C f n w d st tg hi mi go) sz)) 0 0 (va_A (cm q ca C f n w d st tg hi mi go) sz) := by
  refine Met.ofW (cc := cX2_isDirty) (maxL := 2) (ret := (some .boolean)) (by decide) rfl ?_
  intro p e s m args below meth c s₁ B hml hv
  obtain ⟨rfl, hsz, hP, hK, hD0⟩ := hv
  have hx := B.exec
  have hb := B.bytes
  have hr := B.returns
  have hts := atoms_spec (ws := wsX2_isDirty) B.pre
  have hown : s.vm.findClass RX2 = some m.cls := findClass_of_methodNamed B.named
  have hlocks := B.notSynchronized
  have hwX2 : ∀ w ∈ u_ws RX2 TX2 10, w ∈ wsX2_isDirty := by decide +kernel
  subst hsz
  have hD := hD0.self (sz := s.heap.size)
  generalize hAe : va_A (cm q ca C f n w d st tg hi mi go) s.heap.size = A at hD ⊢
  have hA : ∀ q : Nat, s.heap.size ≤ q → A q := fun q h => by rw [← hAe]; exact Or.inr h
  have hS0 : ∀ H, s.heap = H → va_S A s.heap H [] := fun H h => by subst h; exact va_S.rf
  have hl := lv_entry ([.ref (q 0), .int x]) (n := 2) (Nat.le_of_ble_eq_true rfl)
  rw [lg_entry_eq]
  generalize (lg_sl ([.ref (q 0), .int x]) ++ List.replicate (2 - (lg_sl ([.ref (q 0), .int x])).length) Slot.unset).toArray = ls at hl ⊢
  have hl : lv_has ls 2 [(0, .ref (q 0)), (1, .int x)] := hl
  generalize hHe : s.heap = H at hP ⊢
  have hS := hS0 H hHe
  refine lv_iload_n hx hb dX2_isDirty_0 rfl (lv_at hl 1 rfl) ?_
  have hPc := hP.sub (ws' := []) [] rfl
  have hDc := hD.sub (ws' := []) [] (by decide) rfl
  have hFc := va_free (wc := []) hD hS hA [] rfl
  refine va_calli (va_runS (As := [.int x]) (rest := []) ⟨hx, hb, hml, hown, hts⟩ (c_M_isAddress l dC dI x H.size) (va_cwS 1 hts gX2_isDirty_X2_isAddress rfl rfl rfl (by decide +kernel) ⟨Nat.le_of_ble_eq_true rfl, Nat.le_of_ble_eq_true rfl⟩) ⟨fun a U g mk q => by obtain ⟨q0, q1⟩ := q; exact ⟨q0, q1⟩, fun U hU hW => ⟨rfl, by show U.heap.size = _; rw [hU]⟩⟩ rfl rfl hl.1 rfl (lv_room (Nat.le_of_ble_eq_true rfl)) dX2_isDirty_1 ⟨Nat.le_of_ble_eq_true rfl, Nat.le_of_ble_eq_true rfl⟩) hS (fun q _ h => hFc q h) hFc (fun r u t H1 locs ht hvm hw hB hz1 hk1 hS => ?_)
  obtain ⟨hP, hD⟩ := va_join (wr := (cm q ca C f n w d st tg hi mi go)) (w1 := []) hP hD [] [0, 1, 2, 3, 4, 5] rfl rfl (by decide) (by decide) hk1 hFc (fun k q h => by simp at h) ⟨fun i j p q h => by simp at h, fun k q h => by simp at h⟩
  generalize H1 = H at hP hS ⊢
  replace hP : va_P (dC, dI) vwCl (cm q ca C f n w d st tg hi mi go) H := hP
  replace hD : va_D A (cm q ca C f n w d st tg hi mi go) := hD
  by_cases hyes9 : x < 0 ∨ nI 64 ≤ x
  · rw [if_pos hyes9] at hw
    subst hw
    refine lv_if_eq (tgt := 20) hx hb dX2_isDirty_4 (by decide) (fun c_4 => ?_) (fun c_4 => ?_)
    · skip
      replace c_4 : 0 = 0 := (nI_eq (a := 0) (b := 0) (by omega) (by omega)).mp c_4
      refine lv_iconst (v := nI 0) hx hb dX2_isDirty_20 (by decide) ?_
      exact W.zret (v := nI 0) (ty := .boolean) hx hb hr (by decide) (fun t ht hW => ⟨⟨nI 0, (L, w, d, st, tg, hi, mi, go), rfl, ⟨by unfold ap_dy; first | (rw [if_pos hyes9]; rfl) | (rw [if_neg hyes9, if_pos c_13]; rfl), rfl⟩, f, n, hfm, by rw [ht]; exact hP, va_K.moved hW.alike hK, hD⟩, hS.F ht⟩) hS.2.2 dX2_isDirty_21
    · skip
      replace c_4 : ¬ (0 = 0) := fun h9 => c_4 ((nI_eq (a := 0) (b := 0) (by omega) (by omega)).mpr h9)
      exact absurd c_4 (by omega)
  · have hno9 := hyes9
    rw [if_neg hno9] at hw
    subst hw
    have hx64 : vp_in x 64 := vp_in_64.mpr hno9
    refine lv_if_eq (tgt := 20) hx hb dX2_isDirty_4 (by decide) (fun c_4 => ?_) (fun c_4 => ?_)
    · skip
      replace c_4 : 1 = 0 := (nI_eq (a := 1) (b := 0) (by omega) (by omega)).mp c_4
      exact absurd c_4 (by omega)
    · skip
      replace c_4 : ¬ (1 = 0) := fun h9 => c_4 ((nI_eq (a := 1) (b := 0) (by omega) (by omega)).mpr h9)
      refine lv_aload_n hx hb dX2_isDirty_7 rfl (lv_at hl 0 rfl) ?_
      refine va_get (D := (dC, dI)) (ci := 2) (v := .ref (q 5)) (C := RX2) (T := TX2) (N := 10) hx hb hts hwX2 hown hK hP 0 rfl rfl 5 (by decide) (hts (.fieldLink RX2 22 "ArcCacheModel" "dirty" "[Z") (by decide +kernel)) (fun _ h9 => h9) rfl dX2_isDirty_8 ?_
      refine lv_iload_n hx hb dX2_isDirty_11 rfl (lv_at hl 1 rfl) ?_
      refine va_zald hx hb hK hP 5 4 rfl rfl hx64 dX2_isDirty_12 ?_
      refine lv_if_eq (tgt := 20) hx hb dX2_isDirty_13 (by decide) (fun c_13 => ?_) (fun c_13 => ?_)
      · skip
        refine lv_iconst (v := nI 0) hx hb dX2_isDirty_20 (by decide) ?_
        exact W.zret (v := nI 0) (ty := .boolean) hx hb hr (by decide) (fun t ht hW => ⟨⟨nI 0, (L, w, d, st, tg, hi, mi, go), rfl, ⟨by unfold ap_dy; first | (rw [if_pos hyes9]; rfl) | (rw [if_neg hyes9, if_pos c_13]; rfl), rfl⟩, f, n, hfm, by rw [ht]; exact hP, va_K.moved hW.alike hK, hD⟩, hS.F ht⟩) hS.2.2 dX2_isDirty_21
      · skip
        refine lv_iconst (v := nI 1) hx hb dX2_isDirty_16 (by decide) ?_
        refine lv_goto (tgt := 21) hx hb dX2_isDirty_17 (by decide) ?_
        exact W.zret (v := nI 1) (ty := .boolean) hx hb hr (by decide) (fun t ht hW => ⟨⟨nI 1, (L, w, d, st, tg, hi, mi, go), rfl, ⟨by unfold ap_dy; rw [if_neg hno9, if_neg c_13]; rfl, rfl⟩, f, n, hfm, by rw [ht]; exact hP, va_K.moved hW.alike hK, hD⟩, hS.F ht⟩) hS.2.2 dX2_isDirty_21
set_option maxHeartbeats 4000000 in
set_option maxRecDepth 100000 in
theorem c_M_read (l : Launch) (dC : Nat → ClassId) (dI : Nat → Nat → Nat) (q : Nat → Nat) (ca : Nat → ClassId) (C : Nat) (f n w d st : Nat → Int32) (tg : Nat) (hi mi go : Int32) (L : Nat → List Int32) (x : Int32) (sz : Nat) (hfm : fm_ok f n L) (hok : ap_ok C tg L) : Met l yX2_read wsX2_read ({ frames := 6, cells := 0, slots := 0, locals := 139 }) (va_Pc [.ref (q 0), .int x] (fun U => U.heap.size = sz ∧ va_P (dC, dI) vwCl (cm q ca C f n w d st tg hi mi go) U.heap ∧ va_K (dC, dI) vwCl (km ca) U ∧ va_D (fun _ => True) (cm q ca C f n w d st tg hi mi go))) (va_Qi (fun (r : Int32) (u : ap_U) => (r, u) = ap_rd C x (L, w, d, st, tg, hi, mi, go)) (at_M dC dI (va_A (cm q ca C f n w d st tg hi mi go) sz) q ca C) (va_A (cm q ca C f n w d st tg hi mi go) sz)) 0 0 (va_A (cm q ca C f n w d st tg hi mi go) sz) := by
  refine Met.ofW (cc := cX2_read) (maxL := 2) (ret := (some .int)) (by decide) rfl ?_
  intro p e s m args below meth c s₁ B hml hv
  obtain ⟨rfl, hsz, hP, hK, hD0⟩ := hv
  have hx := B.exec
  have hb := B.bytes
  have hr := B.returns
  have hts := atoms_spec (ws := wsX2_read) B.pre
  have hown : s.vm.findClass RX2 = some m.cls := findClass_of_methodNamed B.named
  have hlocks := B.notSynchronized
  have hwX2 : ∀ w ∈ u_ws RX2 TX2 10, w ∈ wsX2_read := by decide +kernel
  subst hsz
  have hD := hD0.self (sz := s.heap.size)
  generalize hAe : va_A (cm q ca C f n w d st tg hi mi go) s.heap.size = A at hD ⊢
  have hA : ∀ q : Nat, s.heap.size ≤ q → A q := fun q h => by rw [← hAe]; exact Or.inr h
  have hS0 : ∀ H, s.heap = H → va_S A s.heap H [] := fun H h => by subst h; exact va_S.rf
  have hl := lv_entry ([.ref (q 0), .int x]) (n := 2) (Nat.le_of_ble_eq_true rfl)
  rw [lg_entry_eq]
  generalize (lg_sl ([.ref (q 0), .int x]) ++ List.replicate (2 - (lg_sl ([.ref (q 0), .int x])).length) Slot.unset).toArray = ls at hl ⊢
  have hl : lv_has ls 2 [(0, .ref (q 0)), (1, .int x)] := hl
  generalize hHe : s.heap = H at hP ⊢
  have hS := hS0 H hHe
  refine lv_iload_n hx hb dX2_read_0 rfl (lv_at hl 1 rfl) ?_
  have hPc := hP.sub (ws' := []) [] rfl
  have hDc := hD.sub (ws' := []) [] (by decide) rfl
  have hFc := va_free (wc := []) hD hS hA [] rfl
  refine va_calli (va_runS (As := [.int x]) (rest := []) ⟨hx, hb, hml, hown, hts⟩ (c_M_isAddress l dC dI x H.size) (va_cwS 1 hts gX2_read_X2_isAddress rfl rfl rfl (by decide +kernel) ⟨Nat.le_of_ble_eq_true rfl, Nat.le_of_ble_eq_true rfl⟩) ⟨fun a U g mk q => by obtain ⟨q0, q1⟩ := q; exact ⟨q0, q1⟩, fun U hU hW => ⟨rfl, by show U.heap.size = _; rw [hU]⟩⟩ rfl rfl hl.1 rfl (lv_room (Nat.le_of_ble_eq_true rfl)) dX2_read_1 ⟨Nat.le_of_ble_eq_true rfl, Nat.le_of_ble_eq_true rfl⟩) hS (fun q _ h => hFc q h) hFc (fun r u t H1 locs ht hvm hw hB hz1 hk1 hS => ?_)
  obtain ⟨hP, hD⟩ := va_join (wr := (cm q ca C f n w d st tg hi mi go)) (w1 := []) hP hD [] [0, 1, 2, 3, 4, 5] rfl rfl (by decide) (by decide) hk1 hFc (fun k q h => by simp at h) ⟨fun i j p q h => by simp at h, fun k q h => by simp at h⟩
  generalize H1 = H at hP hS ⊢
  replace hP : va_P (dC, dI) vwCl (cm q ca C f n w d st tg hi mi go) H := hP
  replace hD : va_D A (cm q ca C f n w d st tg hi mi go) := hD
  by_cases hyes9 : x < 0 ∨ nI 64 ≤ x
  · rw [if_pos hyes9] at hw
    subst hw
    refine lv_if_ne (tgt := 9) hx hb dX2_read_4 (by decide) (fun c_4 => ?_) (fun c_4 => ?_)
    · skip
      replace c_4 : ¬ (0 = 0) := fun h9 => c_4 ((nI_eq (a := 0) (b := 0) (by omega) (by omega)).mpr h9)
      exact absurd c_4 (by omega)
    · skip
      replace c_4 : 0 = 0 := (nI_eq (a := 0) (b := 0) (by omega) (by omega)).mp c_4
      refine lv_iconst (v := nI 0) hx hb dX2_read_7 (by decide) ?_
      exact W.iret (v := nI 0) hx hb hr (fun t ht hW => ⟨⟨nI 0, (L, w, d, st, tg, hi, mi, go), rfl, by unfold ap_rd; rw [if_pos hyes9]; rfl, f, n, hfm, by rw [ht]; exact hP, va_K.moved hW.alike hK, hD⟩, hS.F ht⟩) hS.2.2 dX2_read_8
  · have hno9 := hyes9
    rw [if_neg hno9] at hw
    subst hw
    have hx64 : vp_in x 64 := vp_in_64.mpr hno9
    refine lv_if_ne (tgt := 9) hx hb dX2_read_4 (by decide) (fun c_4 => ?_) (fun c_4 => ?_)
    · skip
      replace c_4 : ¬ (1 = 0) := fun h9 => c_4 ((nI_eq (a := 1) (b := 0) (by omega) (by omega)).mpr h9)
      refine lv_aload_n hx hb dX2_read_9 rfl (lv_at hl 0 rfl) ?_
      refine lv_iload_n hx hb dX2_read_10 rfl (lv_at hl 1 rfl) ?_
      have hPc := hP.sub (ws' := (cm q ca C f n w d st tg hi mi go)) [0, 1, 2, 3, 4, 5] rfl
      have hDc := hD.sub (ws' := (cm q ca C f n w d st tg hi mi go)) [0, 1, 2, 3, 4, 5] (by decide) rfl
      have hKc := hK.sub (tys' := (km ca)) [0, 1, 2, 3, 4] rfl
      have hFc := va_free (wc := (cm q ca C f n w d st tg hi mi go)) hD hS hA [0, 1, 2, 3, 4, 5] rfl
      refine va_callv (va_runV (As := [.int x]) (rest := []) ⟨hx, hb, hml, hown, hts⟩ (c_M_request l dC dI q ca C f n w d st tg hi mi go L x H.size hfm hok hx64) (cwV 1 hts gX2_read_X2_request rfl rfl rfl (by decide +kernel) ⟨Nat.le_of_ble_eq_true rfl, Nat.le_of_ble_eq_true rfl⟩) ⟨fun a U g mk q => by obtain ⟨q0, q1, qP, qK, qD⟩ := q; exact ⟨q0, q1, qP, va_K.moved (u := U) (U := U.calling g mk a) (Vm.Alike.refl U.vm) qK, qD⟩, va_recv hKc hPc (ci := 2) (q0 := 0) rfl rfl, fun U hU hW => ⟨rfl, by rw [hU], by rw [hU]; exact hPc, va_K.moved hW.alike hKc, hDc.weaken (fun _ _ _ _ => trivial)⟩⟩ rfl rfl hl.1 rfl (lv_room (Nat.le_of_ble_eq_true rfl)) dX2_read_11 ⟨Nat.le_of_ble_eq_true rfl, Nat.le_of_ble_eq_true rfl⟩) hS (fun q _ h => hFc q h) hFc (fun u t H1 locs ht hvm hw hB hz1 hk1 hS => ?_)
      obtain ⟨L1, w1, d1, st1, tg1, hi1, mi1, go1⟩ := u
      obtain ⟨f1, n1, hf1, hP1, hK1, hD1⟩ := hB
      rw [ht] at hP1
      have hw9 := hw
      obtain ⟨hP, hD⟩ := va_join (wr := []) (w1 := (cm q ca C f1 n1 w1 d1 st1 tg1 hi1 mi1 go1)) hP hD [0, 1, 2, 3, 4, 5] [] rfl rfl (by decide) (by decide) hk1 hFc hP1 hD1
      generalize H1 = H at hP hS ⊢
      replace hP : va_P (dC, dI) vwCl (cm q ca C f1 n1 w1 d1 st1 tg1 hi1 mi1 go1) H := hP
      replace hD : va_D A (cm q ca C f1 n1 w1 d1 st1 tg1 hi1 mi1 go1) := hD
      refine lv_aload_n hx hb dX2_read_14 rfl (lv_at hl 0 rfl) ?_
      refine va_get (D := (dC, dI)) (ci := 2) (v := .ref (q 4)) (C := RX2) (T := TX2) (N := 10) hx hb hts hwX2 hown hK hP 0 rfl rfl 4 (by decide) (hts (.fieldLink RX2 19 "ArcCacheModel" "words" "[I") (by decide +kernel)) (fun _ h9 => h9) rfl dX2_read_15 ?_
      refine lv_iload_n hx hb dX2_read_18 rfl (lv_at hl 1 rfl) ?_
      refine va_iald hx hb hK hP 4 3 rfl rfl hx64 dX2_read_19 ?_
      exact W.iret (v := w1 x.toNatClampNeg) hx hb hr (fun t ht hW => ⟨⟨w1 x.toNatClampNeg, (L1, w1, d1, st1, tg1, hi1, mi1, go1), rfl, by unfold ap_rd; rw [if_neg hno9, ← hw9], f1, n1, hf1, by rw [ht]; exact hP, va_K.moved hW.alike hK, hD⟩, hS.F ht⟩) hS.2.2 dX2_read_20
    · skip
      replace c_4 : 1 = 0 := (nI_eq (a := 1) (b := 0) (by omega) (by omega)).mp c_4
      exact absurd c_4 (by omega)
set_option maxHeartbeats 4000000 in
set_option maxRecDepth 100000 in
theorem c_M_write (l : Launch) (dC : Nat → ClassId) (dI : Nat → Nat → Nat) (q : Nat → Nat) (ca : Nat → ClassId) (C : Nat) (f n w d st : Nat → Int32) (tg : Nat) (hi mi go : Int32) (L : Nat → List Int32) (x y : Int32) (sz : Nat) (hfm : fm_ok f n L) (hok : ap_ok C tg L) : Met l yX2_write wsX2_write ({ frames := 6, cells := 0, slots := 0, locals := 139 }) (va_Pc [.ref (q 0), .int x, .int y] (fun U => U.heap.size = sz ∧ va_P (dC, dI) vwCl (cm q ca C f n w d st tg hi mi go) U.heap ∧ va_K (dC, dI) vwCl (km ca) U ∧ va_D (fun _ => True) (cm q ca C f n w d st tg hi mi go))) (va_Qi (fun (r : Int32) (u : ap_U) => (r, u) = ap_wr C x y (L, w, d, st, tg, hi, mi, go)) (at_M dC dI (va_A (cm q ca C f n w d st tg hi mi go) sz) q ca C) (va_A (cm q ca C f n w d st tg hi mi go) sz)) 0 0 (va_A (cm q ca C f n w d st tg hi mi go) sz) := by
  refine Met.ofW (cc := cX2_write) (maxL := 3) (ret := (some .boolean)) (by decide) rfl ?_
  intro p e s m args below meth c s₁ B hml hv
  obtain ⟨rfl, hsz, hP, hK, hD0⟩ := hv
  have hx := B.exec
  have hb := B.bytes
  have hr := B.returns
  have hts := atoms_spec (ws := wsX2_write) B.pre
  have hown : s.vm.findClass RX2 = some m.cls := findClass_of_methodNamed B.named
  have hlocks := B.notSynchronized
  have hwX2 : ∀ w ∈ u_ws RX2 TX2 10, w ∈ wsX2_write := by decide +kernel
  subst hsz
  have hD := hD0.self (sz := s.heap.size)
  generalize hAe : va_A (cm q ca C f n w d st tg hi mi go) s.heap.size = A at hD ⊢
  have hA : ∀ q : Nat, s.heap.size ≤ q → A q := fun q h => by rw [← hAe]; exact Or.inr h
  have hS0 : ∀ H, s.heap = H → va_S A s.heap H [] := fun H h => by subst h; exact va_S.rf
  have hl := lv_entry ([.ref (q 0), .int x, .int y]) (n := 3) (Nat.le_of_ble_eq_true rfl)
  rw [lg_entry_eq]
  generalize (lg_sl ([.ref (q 0), .int x, .int y]) ++ List.replicate (3 - (lg_sl ([.ref (q 0), .int x, .int y])).length) Slot.unset).toArray = ls at hl ⊢
  have hl : lv_has ls 3 [(0, .ref (q 0)), (1, .int x), (2, .int y)] := hl
  generalize hHe : s.heap = H at hP ⊢
  have hS := hS0 H hHe
  refine lv_iload_n hx hb dX2_write_0 rfl (lv_at hl 1 rfl) ?_
  have hPc := hP.sub (ws' := []) [] rfl
  have hDc := hD.sub (ws' := []) [] (by decide) rfl
  have hFc := va_free (wc := []) hD hS hA [] rfl
  refine va_calli (va_runS (As := [.int x]) (rest := []) ⟨hx, hb, hml, hown, hts⟩ (c_M_isAddress l dC dI x H.size) (va_cwS 1 hts gX2_write_X2_isAddress rfl rfl rfl (by decide +kernel) ⟨Nat.le_of_ble_eq_true rfl, Nat.le_of_ble_eq_true rfl⟩) ⟨fun a U g mk q => by obtain ⟨q0, q1⟩ := q; exact ⟨q0, q1⟩, fun U hU hW => ⟨rfl, by show U.heap.size = _; rw [hU]⟩⟩ rfl rfl hl.1 rfl (lv_room (Nat.le_of_ble_eq_true rfl)) dX2_write_1 ⟨Nat.le_of_ble_eq_true rfl, Nat.le_of_ble_eq_true rfl⟩) hS (fun q _ h => hFc q h) hFc (fun r u t H1 locs ht hvm hw hB hz1 hk1 hS => ?_)
  obtain ⟨hP, hD⟩ := va_join (wr := (cm q ca C f n w d st tg hi mi go)) (w1 := []) hP hD [] [0, 1, 2, 3, 4, 5] rfl rfl (by decide) (by decide) hk1 hFc (fun k q h => by simp at h) ⟨fun i j p q h => by simp at h, fun k q h => by simp at h⟩
  generalize H1 = H at hP hS ⊢
  replace hP : va_P (dC, dI) vwCl (cm q ca C f n w d st tg hi mi go) H := hP
  replace hD : va_D A (cm q ca C f n w d st tg hi mi go) := hD
  by_cases hyes9 : x < 0 ∨ nI 64 ≤ x
  · rw [if_pos hyes9] at hw
    subst hw
    refine lv_if_ne (tgt := 9) hx hb dX2_write_4 (by decide) (fun c_4 => ?_) (fun c_4 => ?_)
    · skip
      replace c_4 : ¬ (0 = 0) := fun h9 => c_4 ((nI_eq (a := 0) (b := 0) (by omega) (by omega)).mpr h9)
      exact absurd c_4 (by omega)
    · skip
      replace c_4 : 0 = 0 := (nI_eq (a := 0) (b := 0) (by omega) (by omega)).mp c_4
      refine lv_iconst (v := nI 0) hx hb dX2_write_7 (by decide) ?_
      exact W.zret (v := nI 0) (ty := .boolean) hx hb hr (by decide) (fun t ht hW => ⟨⟨nI 0, (L, w, d, st, tg, hi, mi, go), rfl, by unfold ap_wr; rw [if_pos hyes9]; rfl, f, n, hfm, by rw [ht]; exact hP, va_K.moved hW.alike hK, hD⟩, hS.F ht⟩) hS.2.2 dX2_write_8
  · have hno9 := hyes9
    rw [if_neg hno9] at hw
    subst hw
    have hx64 : vp_in x 64 := vp_in_64.mpr hno9
    refine lv_if_ne (tgt := 9) hx hb dX2_write_4 (by decide) (fun c_4 => ?_) (fun c_4 => ?_)
    · skip
      replace c_4 : ¬ (1 = 0) := fun h9 => c_4 ((nI_eq (a := 1) (b := 0) (by omega) (by omega)).mpr h9)
      refine lv_aload_n hx hb dX2_write_9 rfl (lv_at hl 0 rfl) ?_
      refine lv_iload_n hx hb dX2_write_10 rfl (lv_at hl 1 rfl) ?_
      have hPc := hP.sub (ws' := (cm q ca C f n w d st tg hi mi go)) [0, 1, 2, 3, 4, 5] rfl
      have hDc := hD.sub (ws' := (cm q ca C f n w d st tg hi mi go)) [0, 1, 2, 3, 4, 5] (by decide) rfl
      have hKc := hK.sub (tys' := (km ca)) [0, 1, 2, 3, 4] rfl
      have hFc := va_free (wc := (cm q ca C f n w d st tg hi mi go)) hD hS hA [0, 1, 2, 3, 4, 5] rfl
      refine va_callv (va_runV (As := [.int x]) (rest := []) ⟨hx, hb, hml, hown, hts⟩ (c_M_request l dC dI q ca C f n w d st tg hi mi go L x H.size hfm hok hx64) (cwV 1 hts gX2_write_X2_request rfl rfl rfl (by decide +kernel) ⟨Nat.le_of_ble_eq_true rfl, Nat.le_of_ble_eq_true rfl⟩) ⟨fun a U g mk q => by obtain ⟨q0, q1, qP, qK, qD⟩ := q; exact ⟨q0, q1, qP, va_K.moved (u := U) (U := U.calling g mk a) (Vm.Alike.refl U.vm) qK, qD⟩, va_recv hKc hPc (ci := 2) (q0 := 0) rfl rfl, fun U hU hW => ⟨rfl, by rw [hU], by rw [hU]; exact hPc, va_K.moved hW.alike hKc, hDc.weaken (fun _ _ _ _ => trivial)⟩⟩ rfl rfl hl.1 rfl (lv_room (Nat.le_of_ble_eq_true rfl)) dX2_write_11 ⟨Nat.le_of_ble_eq_true rfl, Nat.le_of_ble_eq_true rfl⟩) hS (fun q _ h => hFc q h) hFc (fun u t H1 locs ht hvm hw hB hz1 hk1 hS => ?_)
      obtain ⟨L1, w1, d1, st1, tg1, hi1, mi1, go1⟩ := u
      obtain ⟨f1, n1, hf1, hP1, hK1, hD1⟩ := hB
      rw [ht] at hP1
      have hw9 := hw
      obtain ⟨hP, hD⟩ := va_join (wr := []) (w1 := (cm q ca C f1 n1 w1 d1 st1 tg1 hi1 mi1 go1)) hP hD [0, 1, 2, 3, 4, 5] [] rfl rfl (by decide) (by decide) hk1 hFc hP1 hD1
      generalize H1 = H at hP hS ⊢
      replace hP : va_P (dC, dI) vwCl (cm q ca C f1 n1 w1 d1 st1 tg1 hi1 mi1 go1) H := hP
      replace hD : va_D A (cm q ca C f1 n1 w1 d1 st1 tg1 hi1 mi1 go1) := hD
      refine lv_aload_n hx hb dX2_write_14 rfl (lv_at hl 0 rfl) ?_
      refine va_get (D := (dC, dI)) (ci := 2) (v := .ref (q 4)) (C := RX2) (T := TX2) (N := 10) hx hb hts hwX2 hown hK hP 0 rfl rfl 4 (by decide) (hts (.fieldLink RX2 19 "ArcCacheModel" "words" "[I") (by decide +kernel)) (fun _ h9 => h9) rfl dX2_write_15 ?_
      refine lv_iload_n hx hb dX2_write_18 rfl (lv_at hl 1 rfl) ?_
      refine lv_iload_n hx hb dX2_write_19 rfl (lv_at hl 2 rfl) ?_
      refine va_iast hx hb hK hP hD hS 4 3 rfl rfl hx64 dX2_write_20 (fun H locs hP hD hS => ?_)
      replace hP : va_P (dC, dI) vwCl (cm q ca C f1 n1 (upd w1 x.toNatClampNeg y) d1 st1 tg1 hi1 mi1 go1) H := hP
      replace hD : va_D A (cm q ca C f1 n1 (upd w1 x.toNatClampNeg y) d1 st1 tg1 hi1 mi1 go1) := hD
      refine lv_aload_n hx hb dX2_write_21 rfl (lv_at hl 0 rfl) ?_
      refine va_get (D := (dC, dI)) (ci := 2) (v := .ref (q 5)) (C := RX2) (T := TX2) (N := 10) hx hb hts hwX2 hown hK hP 0 rfl rfl 5 (by decide) (hts (.fieldLink RX2 22 "ArcCacheModel" "dirty" "[Z") (by decide +kernel)) (fun _ h9 => h9) rfl dX2_write_22 ?_
      refine lv_iload_n hx hb dX2_write_25 rfl (lv_at hl 1 rfl) ?_
      refine lv_iconst (v := nI 1) hx hb dX2_write_26 (by decide) ?_
      refine va_zast hx hb hK hP hD hS 5 4 rfl rfl hx64 dX2_write_27 (fun H locs hP hD hS => ?_)
      rw [ap_nar1] at hP hD
      replace hP : va_P (dC, dI) vwCl (cm q ca C f1 n1 (upd w1 x.toNatClampNeg y) (upd d1 x.toNatClampNeg 1) st1 tg1 hi1 mi1 go1) H := hP
      replace hD : va_D A (cm q ca C f1 n1 (upd w1 x.toNatClampNeg y) (upd d1 x.toNatClampNeg 1) st1 tg1 hi1 mi1 go1) := hD
      refine lv_iconst (v := nI 1) hx hb dX2_write_28 (by decide) ?_
      exact W.zret (v := nI 1) (ty := .boolean) hx hb hr (by decide) (fun t ht hW => ⟨⟨nI 1, (L1, upd w1 x.toNatClampNeg y, upd d1 x.toNatClampNeg 1, st1, tg1, hi1, mi1, go1), rfl, by unfold ap_wr; rw [if_neg hno9, ← hw9]; rfl, f1, n1, hf1, by rw [ht]; exact hP, va_K.moved hW.alike hK, hD⟩, hS.F ht⟩) hS.2.2 dX2_write_29
    · skip
      replace c_4 : 1 = 0 := (nI_eq (a := 1) (b := 0) (by omega) (by omega)).mp c_4
      exact absurd c_4 (by omega)
set_option maxHeartbeats 4000000 in
set_option maxRecDepth 100000 in
theorem c_M_flush (l : Launch) (dC : Nat → ClassId) (dI : Nat → Nat → Nat) (q : Nat → Nat) (ca : Nat → ClassId) (C : Nat) (f n w d st : Nat → Int32) (tg : Nat) (hi mi go : Int32) (L : Nat → List Int32)  (sz : Nat) (hfm : fm_ok f n L) : Met l yX2_flush wsX2_flush ({ frames := 1, cells := 0, slots := 0, locals := 21 }) (va_Pc [.ref (q 0)] (fun U => U.heap.size = sz ∧ va_P (dC, dI) vwCl (cm q ca C f n w d st tg hi mi go) U.heap ∧ va_K (dC, dI) vwCl (km ca) U ∧ va_D (fun _ => True) (cm q ca C f n w d st tg hi mi go))) (va_Qi (fun (r : Int32) (u : ap_U) => r = (ap_fl w (d, st, nI 0) 64).2.2 ∧ u = (L, w, (ap_fl w (d, st, nI 0) 64).1, (ap_fl w (d, st, nI 0) 64).2.1, tg, hi, mi, go)) (at_M dC dI (va_A (cm q ca C f n w d st tg hi mi go) sz) q ca C) (va_A (cm q ca C f n w d st tg hi mi go) sz)) 0 0 (va_A (cm q ca C f n w d st tg hi mi go) sz) := by
  refine Met.ofW (cc := cX2_flush) (maxL := 3) (ret := (some .int)) (by decide) rfl ?_
  intro p e s m args below meth c s₁ B hml hv
  obtain ⟨rfl, hsz, hP, hK, hD0⟩ := hv
  have hx := B.exec
  have hb := B.bytes
  have hr := B.returns
  have hts := atoms_spec (ws := wsX2_flush) B.pre
  have hown : s.vm.findClass RX2 = some m.cls := findClass_of_methodNamed B.named
  have hlocks := B.notSynchronized
  have hwX2 : ∀ w ∈ u_ws RX2 TX2 10, w ∈ wsX2_flush := by decide +kernel
  subst hsz
  have hD := hD0.self (sz := s.heap.size)
  generalize hAe : va_A (cm q ca C f n w d st tg hi mi go) s.heap.size = A at hD ⊢
  have hA : ∀ q : Nat, s.heap.size ≤ q → A q := fun q h => by rw [← hAe]; exact Or.inr h
  have hS0 : ∀ H, s.heap = H → va_S A s.heap H [] := fun H h => by subst h; exact va_S.rf
  have hl := lv_entry ([.ref (q 0)]) (n := 3) (Nat.le_of_ble_eq_true rfl)
  rw [lg_entry_eq]
  generalize (lg_sl ([.ref (q 0)]) ++ List.replicate (3 - (lg_sl ([.ref (q 0)])).length) Slot.unset).toArray = ls at hl ⊢
  have hl : lv_has ls 3 [(0, .ref (q 0))] := hl
  generalize hHe : s.heap = H at hP ⊢
  have hS := hS0 H hHe
  refine lv_iconst (v := nI 0) hx hb dX2_flush_0 (by decide) ?_
  refine lv_istore_n (lv' := [(1, .int (nI 0)), (0, .ref (q 0))]) hx hb dX2_flush_1 rfl hl (by decide) rfl (fun ls hl => ?_)
  refine lv_iconst (v := nI 0) hx hb dX2_flush_2 (by decide) ?_
  refine lv_istore_n (lv' := [(2, .int (nI 0)), (1, .int (nI 0)), (0, .ref (q 0))]) hx hb dX2_flush_3 rfl hl (by decide) rfl (fun ls hl => ?_)
  have loop : ∀ (k : Nat) (i : Nat) (g : Nat → Int32) (h : Nat → Int32) (ls : Array Slot) (H : Heap) (locs : List Loc), (i ≤ 64) → (fm_ok g h L) → lv_has ls 3 [(0, .ref (q 0)), (1, .int ((ap_fl w (d, st, nI 0) i).2.2)), (2, .int (nI i))] → va_P (dC, dI) vwCl (cm q ca C g h w ((ap_fl w (d, st, nI 0) i).1) ((ap_fl w (d, st, nI 0) i).2.1) tg hi mi go) H → va_D A (cm q ca C g h w ((ap_fl w (d, st, nI 0) i).1) ((ap_fl w (d, st, nI 0) i).2.1) tg hi mi go) → va_S A s.heap H locs → 65 ≤ i + k → W p l e (headSpec wsX2_flush ({ frames := 1, cells := 0, slots := 0, locals := 21 })).room s m ([.ref (q 0)] : List Value).toArray below meth c H locs 0 0 (MQ below (va_Qi (fun (r : Int32) (u : ap_U) => r = (ap_fl w (d, st, nI 0) 64).2.2 ∧ u = (L, w, (ap_fl w (d, st, nI 0) 64).1, (ap_fl w (d, st, nI 0) 64).2.1, tg, hi, mi, go)) (at_M dC dI A q ca C) A) ([.ref (q 0)] : List Value).toArray s 0 0 A) (F0 m 4 ls []) := by
    intro k
    induction k with
    | zero => intro i g h ls H locs hi64 hg hl hP hD hS hk; exact absurd hk (by omega)
    | succ k ih =>
      intro i g h ls H locs hi64 hg hl hP hD hS hk
      refine lv_iload_n hx hb dX2_flush_4 rfl (lv_at hl 2 rfl) ?_
      refine lv_bipush (v := nI 64) hx hb dX2_flush_5 (by decide) ?_
      refine lv_icmp_ge (tgt := 38) hx hb dX2_flush_7 (by decide) (fun c_7 => ?_) (fun c_7 => ?_)
      · skip
        replace c_7 : 64 ≤ i := (nI_leI (a := 64) (b := i) (by omega) (by omega)).mp c_7
        have e64 : i = 64 := by omega
        subst e64
        refine lv_iload_n hx hb dX2_flush_38 rfl (lv_at hl 1 rfl) ?_
        exact W.iret (v := (ap_fl w (d, st, nI 0) 64).2.2) hx hb hr (fun t ht hW => ⟨⟨(ap_fl w (d, st, nI 0) 64).2.2, (L, w, (ap_fl w (d, st, nI 0) 64).1, (ap_fl w (d, st, nI 0) 64).2.1, tg, hi, mi, go), rfl, ⟨rfl, rfl⟩, g, h, hg, by rw [ht]; exact hP, va_K.moved hW.alike hK, hD⟩, hS.F ht⟩) hS.2.2 dX2_flush_39
      · skip
        replace c_7 : ¬ (64 ≤ i) := fun h9 => c_7 ((nI_leI (a := 64) (b := i) (by omega) (by omega)).mpr h9)
        refine lv_iload_n hx hb dX2_flush_10 rfl (lv_at hl 1 rfl) ?_
        refine lv_aload_n hx hb dX2_flush_11 rfl (lv_at hl 0 rfl) ?_
        refine va_get (D := (dC, dI)) (ci := 2) (v := .ref (q 5)) (C := RX2) (T := TX2) (N := 10) hx hb hts hwX2 hown hK hP 0 rfl rfl 5 (by decide) (hts (.fieldLink RX2 22 "ArcCacheModel" "dirty" "[Z") (by decide +kernel)) (fun _ h9 => h9) rfl dX2_flush_12 ?_
        refine lv_iload_n hx hb dX2_flush_15 rfl (lv_at hl 2 rfl) ?_
        refine va_zald hx hb hK hP 5 4 rfl rfl (vp_in_nI (show i < 64 by omega) (by decide)) dX2_flush_16 ?_
        refine lv_topi (fun x_2 e_x_2 => ?_)
        have e_x_2 : x_2 = ((ap_fl w (d, st, nI 0) i).1) i := by rw [e_x_2]; rw [nI_clamp (by omega)]
        subst e_x_2
        refine lv_if_eq (tgt := 24) hx hb dX2_flush_17 (by decide) (fun c_17 => ?_) (fun c_17 => ?_)
        · skip
          refine lv_iconst (v := nI 0) hx hb dX2_flush_24 (by decide) ?_
          refine lv_iadd hx hb dX2_flush_25 ?_
          refine lv_topi (fun x_3 e_x_3 => ?_)
          have e_x_3 : x_3 = (ap_fl w (d, st, nI 0) i).2.2 := by rw [e_x_3]; exact Int32.add_zero _
          subst e_x_3
          refine lv_istore_n (lv' := [(1, .int ((ap_fl w (d, st, nI 0) i).2.2)), (0, .ref (q 0)), (2, .int (nI i))]) hx hb dX2_flush_26 rfl hl (by decide) rfl (fun ls hl => ?_)
          refine lv_aload_n hx hb dX2_flush_27 rfl (lv_at hl 1 rfl) ?_
          refine lv_iload_n hx hb dX2_flush_28 rfl (lv_at hl 2 rfl) ?_
          have hPc := hP.sub (ws' := (cm q ca C g h w ((ap_fl w (d, st, nI 0) i).1) ((ap_fl w (d, st, nI 0) i).2.1) tg hi mi go)) [0, 1, 2, 3, 4, 5] rfl
          have hDc := hD.sub (ws' := (cm q ca C g h w ((ap_fl w (d, st, nI 0) i).1) ((ap_fl w (d, st, nI 0) i).2.1) tg hi mi go)) [0, 1, 2, 3, 4, 5] (by decide) rfl
          have hKc := hK.sub (tys' := (km ca)) [0, 1, 2, 3, 4] rfl
          have hFc := va_free (wc := (cm q ca C g h w ((ap_fl w (d, st, nI 0) i).1) ((ap_fl w (d, st, nI 0) i).2.1) tg hi mi go)) hD hS hA [0, 1, 2, 3, 4, 5] rfl
          refine va_callv (va_runV (As := [.int (nI i)]) (rest := []) ⟨hx, hb, hml, hown, hts⟩ (c_M_clean l dC dI q ca C g h w ((ap_fl w (d, st, nI 0) i).1) ((ap_fl w (d, st, nI 0) i).2.1) tg hi mi go L (nI i) H.size hg (vp_in_nI (show i < 64 by omega) (by decide))) (cwV 1 hts gX2_flush_X2_clean rfl rfl rfl (by decide +kernel) ⟨Nat.le_of_ble_eq_true rfl, Nat.le_of_ble_eq_true rfl⟩) ⟨fun a U g mk q => by obtain ⟨q0, q1, qP, qK, qD⟩ := q; exact ⟨q0, q1, qP, va_K.moved (u := U) (U := U.calling g mk a) (Vm.Alike.refl U.vm) qK, qD⟩, va_recv hKc hPc (ci := 2) (q0 := 0) rfl rfl, fun U hU hW => ⟨rfl, by rw [hU], by rw [hU]; exact hPc, va_K.moved hW.alike hKc, hDc.weaken (fun _ _ _ _ => trivial)⟩⟩ rfl rfl hl.1 rfl (lv_room (Nat.le_of_ble_eq_true rfl)) dX2_flush_29 ⟨Nat.le_of_ble_eq_true rfl, Nat.le_of_ble_eq_true rfl⟩) hS (fun q _ h => hFc q h) hFc (fun u t H1 locs ht hvm hw hB hz1 hk1 hS => ?_)
          obtain ⟨L1, w1, d1, st1, tg1, hi1, mi1, go1⟩ := u
          obtain ⟨f1, n1, hf1, hP1, hK1, hD1⟩ := hB
          rw [ht] at hP1
          cases hw
          obtain ⟨f_4, ef_4⟩ : ∃ z, z = f1 := ⟨_, rfl⟩
          rw [← ef_4] at hf1 hP1 hD1
          clear ef_4 f1
          obtain ⟨n_5, en_5⟩ : ∃ z, z = n1 := ⟨_, rfl⟩
          rw [← en_5] at hf1 hP1 hD1
          clear en_5 n1
          have hfm_6 := hf1
          obtain ⟨hP, hD⟩ := va_join (wr := []) (w1 := (cm q ca C f_4 n_5 w (ap_cd (ap_fl w (d, st, nI 0) i).1 (nI i)) (ap_cs w (ap_fl w (d, st, nI 0) i).1 (ap_fl w (d, st, nI 0) i).2.1 (nI i)) tg hi mi go)) hP hD [0, 1, 2, 3, 4, 5] [] rfl rfl (by decide) (by decide) hk1 hFc hP1 hD1
          generalize H1 = H at hP hS ⊢
          replace hP : va_P (dC, dI) vwCl (cm q ca C f_4 n_5 w (ap_cd (ap_fl w (d, st, nI 0) i).1 (nI i)) (ap_cs w (ap_fl w (d, st, nI 0) i).1 (ap_fl w (d, st, nI 0) i).2.1 (nI i)) tg hi mi go) H := hP
          replace hD : va_D A (cm q ca C f_4 n_5 w (ap_cd (ap_fl w (d, st, nI 0) i).1 (nI i)) (ap_cs w (ap_fl w (d, st, nI 0) i).1 (ap_fl w (d, st, nI 0) i).2.1 (nI i)) tg hi mi go) := hD
          refine lv_iinc (v := nI (i + 1)) (lv' := [(2, .int (nI (i + 1))), (1, .int ((ap_fl w (d, st, nI 0) i).2.2)), (0, .ref (q 0))]) hx hb dX2_flush_32 hl (k := 2) rfl (nI_add _ _) (by decide) rfl (fun ls hl => ?_)
          refine lv_goto (tgt := 4) hx hb dX2_flush_35 (by decide) ?_
          have eF9 : (ap_fl w (d, st, nI 0) (i + 1)) = (ap_cd (ap_fl w (d, st, nI 0) i).1 (nI i), ap_cs w (ap_fl w (d, st, nI 0) i).1 (ap_fl w (d, st, nI 0) i).2.1 (nI i), (ap_fl w (d, st, nI 0) i).2.2) := by show ap_f1 w i (ap_fl w (d, st, nI 0) i) = _; unfold ap_f1; rw [if_pos c_17]
          replace hP : va_P (dC, dI) vwCl (cm q ca C f_4 n_5 w ((ap_fl w (d, st, nI 0) (i + 1)).1) ((ap_fl w (d, st, nI 0) (i + 1)).2.1) tg hi mi go) H := by rw [eF9]; exact hP
          replace hD : va_D A (cm q ca C f_4 n_5 w ((ap_fl w (d, st, nI 0) (i + 1)).1) ((ap_fl w (d, st, nI 0) (i + 1)).2.1) tg hi mi go) := by rw [eF9]; exact hD
          replace hl : lv_has ls 3 [(2, .int (nI (i + 1))), (1, .int ((ap_fl w (d, st, nI 0) (i + 1)).2.2)), (0, .ref (q 0))] := by rw [eF9]; exact hl
          exact ih (i + 1) f_4 n_5 _ _ _ (by omega) hfm_6 (lv_sub hl [2, 1, 0] rfl) hP hD hS (by omega)
        · skip
          refine lv_iconst (v := nI 1) hx hb dX2_flush_20 (by decide) ?_
          refine lv_goto (tgt := 25) hx hb dX2_flush_21 (by decide) ?_
          refine lv_iadd hx hb dX2_flush_25 ?_
          refine lv_topi (fun x_7 e_x_7 => ?_)
          have e_x_7 : x_7 = (ap_fl w (d, st, nI 0) i).2.2 + 1 := by rw [e_x_7]; rfl
          subst e_x_7
          refine lv_istore_n (lv' := [(1, .int ((ap_fl w (d, st, nI 0) i).2.2 + 1)), (0, .ref (q 0)), (2, .int (nI i))]) hx hb dX2_flush_26 rfl hl (by decide) rfl (fun ls hl => ?_)
          refine lv_aload_n hx hb dX2_flush_27 rfl (lv_at hl 1 rfl) ?_
          refine lv_iload_n hx hb dX2_flush_28 rfl (lv_at hl 2 rfl) ?_
          have hPc := hP.sub (ws' := (cm q ca C g h w ((ap_fl w (d, st, nI 0) i).1) ((ap_fl w (d, st, nI 0) i).2.1) tg hi mi go)) [0, 1, 2, 3, 4, 5] rfl
          have hDc := hD.sub (ws' := (cm q ca C g h w ((ap_fl w (d, st, nI 0) i).1) ((ap_fl w (d, st, nI 0) i).2.1) tg hi mi go)) [0, 1, 2, 3, 4, 5] (by decide) rfl
          have hKc := hK.sub (tys' := (km ca)) [0, 1, 2, 3, 4] rfl
          have hFc := va_free (wc := (cm q ca C g h w ((ap_fl w (d, st, nI 0) i).1) ((ap_fl w (d, st, nI 0) i).2.1) tg hi mi go)) hD hS hA [0, 1, 2, 3, 4, 5] rfl
          refine va_callv (va_runV (As := [.int (nI i)]) (rest := []) ⟨hx, hb, hml, hown, hts⟩ (c_M_clean l dC dI q ca C g h w ((ap_fl w (d, st, nI 0) i).1) ((ap_fl w (d, st, nI 0) i).2.1) tg hi mi go L (nI i) H.size hg (vp_in_nI (show i < 64 by omega) (by decide))) (cwV 1 hts gX2_flush_X2_clean rfl rfl rfl (by decide +kernel) ⟨Nat.le_of_ble_eq_true rfl, Nat.le_of_ble_eq_true rfl⟩) ⟨fun a U g mk q => by obtain ⟨q0, q1, qP, qK, qD⟩ := q; exact ⟨q0, q1, qP, va_K.moved (u := U) (U := U.calling g mk a) (Vm.Alike.refl U.vm) qK, qD⟩, va_recv hKc hPc (ci := 2) (q0 := 0) rfl rfl, fun U hU hW => ⟨rfl, by rw [hU], by rw [hU]; exact hPc, va_K.moved hW.alike hKc, hDc.weaken (fun _ _ _ _ => trivial)⟩⟩ rfl rfl hl.1 rfl (lv_room (Nat.le_of_ble_eq_true rfl)) dX2_flush_29 ⟨Nat.le_of_ble_eq_true rfl, Nat.le_of_ble_eq_true rfl⟩) hS (fun q _ h => hFc q h) hFc (fun u t H1 locs ht hvm hw hB hz1 hk1 hS => ?_)
          obtain ⟨L1, w1, d1, st1, tg1, hi1, mi1, go1⟩ := u
          obtain ⟨f1, n1, hf1, hP1, hK1, hD1⟩ := hB
          rw [ht] at hP1
          cases hw
          obtain ⟨f_8, ef_8⟩ : ∃ z, z = f1 := ⟨_, rfl⟩
          rw [← ef_8] at hf1 hP1 hD1
          clear ef_8 f1
          obtain ⟨n_9, en_9⟩ : ∃ z, z = n1 := ⟨_, rfl⟩
          rw [← en_9] at hf1 hP1 hD1
          clear en_9 n1
          have hfm_10 := hf1
          obtain ⟨hP, hD⟩ := va_join (wr := []) (w1 := (cm q ca C f_8 n_9 w (ap_cd (ap_fl w (d, st, nI 0) i).1 (nI i)) (ap_cs w (ap_fl w (d, st, nI 0) i).1 (ap_fl w (d, st, nI 0) i).2.1 (nI i)) tg hi mi go)) hP hD [0, 1, 2, 3, 4, 5] [] rfl rfl (by decide) (by decide) hk1 hFc hP1 hD1
          generalize H1 = H at hP hS ⊢
          replace hP : va_P (dC, dI) vwCl (cm q ca C f_8 n_9 w (ap_cd (ap_fl w (d, st, nI 0) i).1 (nI i)) (ap_cs w (ap_fl w (d, st, nI 0) i).1 (ap_fl w (d, st, nI 0) i).2.1 (nI i)) tg hi mi go) H := hP
          replace hD : va_D A (cm q ca C f_8 n_9 w (ap_cd (ap_fl w (d, st, nI 0) i).1 (nI i)) (ap_cs w (ap_fl w (d, st, nI 0) i).1 (ap_fl w (d, st, nI 0) i).2.1 (nI i)) tg hi mi go) := hD
          refine lv_iinc (v := nI (i + 1)) (lv' := [(2, .int (nI (i + 1))), (1, .int ((ap_fl w (d, st, nI 0) i).2.2 + 1)), (0, .ref (q 0))]) hx hb dX2_flush_32 hl (k := 2) rfl (nI_add _ _) (by decide) rfl (fun ls hl => ?_)
          refine lv_goto (tgt := 4) hx hb dX2_flush_35 (by decide) ?_
          have eF9 : (ap_fl w (d, st, nI 0) (i + 1)) = (ap_cd (ap_fl w (d, st, nI 0) i).1 (nI i), ap_cs w (ap_fl w (d, st, nI 0) i).1 (ap_fl w (d, st, nI 0) i).2.1 (nI i), (ap_fl w (d, st, nI 0) i).2.2 + 1) := by show ap_f1 w i (ap_fl w (d, st, nI 0) i) = _; unfold ap_f1; rw [if_neg c_17]
          replace hP : va_P (dC, dI) vwCl (cm q ca C f_8 n_9 w ((ap_fl w (d, st, nI 0) (i + 1)).1) ((ap_fl w (d, st, nI 0) (i + 1)).2.1) tg hi mi go) H := by rw [eF9]; exact hP
          replace hD : va_D A (cm q ca C f_8 n_9 w ((ap_fl w (d, st, nI 0) (i + 1)).1) ((ap_fl w (d, st, nI 0) (i + 1)).2.1) tg hi mi go) := by rw [eF9]; exact hD
          replace hl : lv_has ls 3 [(2, .int (nI (i + 1))), (1, .int ((ap_fl w (d, st, nI 0) (i + 1)).2.2)), (0, .ref (q 0))] := by rw [eF9]; exact hl
          exact ih (i + 1) f_8 n_9 _ _ _ (by omega) hfm_10 (lv_sub hl [2, 1, 0] rfl) hP hD hS (by omega)
  exact loop 65 0 f n ls H _ (Nat.zero_le _) hfm (lv_sub hl [2, 1, 0] rfl) hP hD hS (by omega)
set_option maxHeartbeats 4000000 in
set_option maxRecDepth 100000 in
theorem c_M_at (l : Launch) (dC : Nat → ClassId) (dI : Nat → Nat → Nat) (q : Nat → Nat) (ca : Nat → ClassId) (C : Nat) (f n w d st : Nat → Int32) (tg : Nat) (hi mi go : Int32) (L : Nat → List Int32) (x y : Int32) (sz : Nat) (hfm : fm_ok f n L) (hI : ap_inv L) (hz : ap_tot L ≤ 48) : Met l yX2_at wsX2_at ({ frames := 0, cells := 0, slots := 0, locals := 0 }) (va_Pc [.ref (q 0), .int x, .int y] (fun U => U.heap.size = sz ∧ va_P (dC, dI) vwCl (cm q ca C f n w d st tg hi mi go) U.heap ∧ va_K (dC, dI) vwCl (km ca) U ∧ va_D (fun _ => True) (cm q ca C f n w d st tg hi mi go))) (va_Qi (fun (r : Int32) (u : ap_U) => r = ap_at L x y ∧ u = (L, w, d, st, tg, hi, mi, go)) (at_M dC dI (va_A (cm q ca C f n w d st tg hi mi go) sz) q ca C) (va_A (cm q ca C f n w d st tg hi mi go) sz)) 0 0 (va_A (cm q ca C f n w d st tg hi mi go) sz) := by
  refine Met.ofW (cc := cX2_at) (maxL := 3) (ret := (some .int)) (by decide) rfl ?_
  intro p e s m args below meth c s₁ B hml hv
  obtain ⟨rfl, hsz, hP, hK, hD0⟩ := hv
  have hx := B.exec
  have hb := B.bytes
  have hr := B.returns
  have hts := atoms_spec (ws := wsX2_at) B.pre
  have hown : s.vm.findClass RX2 = some m.cls := findClass_of_methodNamed B.named
  have hlocks := B.notSynchronized
  have hwX2 : ∀ w ∈ u_ws RX2 TX2 10, w ∈ wsX2_at := by decide +kernel
  subst hsz
  have hD := hD0.self (sz := s.heap.size)
  generalize hAe : va_A (cm q ca C f n w d st tg hi mi go) s.heap.size = A at hD ⊢
  have hA : ∀ q : Nat, s.heap.size ≤ q → A q := fun q h => by rw [← hAe]; exact Or.inr h
  have hS0 : ∀ H, s.heap = H → va_S A s.heap H [] := fun H h => by subst h; exact va_S.rf
  have hl := lv_entry ([.ref (q 0), .int x, .int y]) (n := 3) (Nat.le_of_ble_eq_true rfl)
  rw [lg_entry_eq]
  generalize (lg_sl ([.ref (q 0), .int x, .int y]) ++ List.replicate (3 - (lg_sl ([.ref (q 0), .int x, .int y])).length) Slot.unset).toArray = ls at hl ⊢
  have hl : lv_has ls 3 [(0, .ref (q 0)), (1, .int x), (2, .int y)] := hl
  generalize hHe : s.heap = H at hP ⊢
  have hS := hS0 H hHe
  have hza := ap_z_all hz
  refine lv_iload_n hx hb dX2_at_0 rfl (lv_at hl 1 rfl) ?_
  refine lv_iconst (v := nI 1) hx hb dX2_at_1 (by decide) ?_
  refine lv_icmp_lt (tgt := 24) hx hb dX2_at_2 (by decide) (fun c_2 => ?_) (fun c_2 => ?_)
  · skip
    have hneg9 : -1 = ap_at L x y := am_at_no (Or.inl c_2)
    refine lv_iconst (v := -1) hx hb dX2_at_24 (by decide) ?_
    refine lv_goto (tgt := 39) hx hb dX2_at_25 (by decide) ?_
    exact W.iret (v := -1) hx hb hr (fun t ht hW => ⟨⟨-1, (L, w, d, st, tg, hi, mi, go), rfl, ⟨hneg9, rfl⟩, f, n, hfm, by rw [ht]; exact hP, va_K.moved hW.alike hK, hD⟩, hS.F ht⟩) hS.2.2 dX2_at_39
  · skip
    refine lv_iload_n hx hb dX2_at_5 rfl (lv_at hl 1 rfl) ?_
    refine lv_iconst (v := nI 4) hx hb dX2_at_6 (by decide) ?_
    refine lv_icmp_gt (tgt := 24) hx hb dX2_at_7 (by decide) (fun c_7 => ?_) (fun c_7 => ?_)
    · skip
      have hneg9 : -1 = ap_at L x y := am_at_no (Or.inr c_7)
      refine lv_iconst (v := -1) hx hb dX2_at_24 (by decide) ?_
      refine lv_goto (tgt := 39) hx hb dX2_at_25 (by decide) ?_
      exact W.iret (v := -1) hx hb hr (fun t ht hW => ⟨⟨-1, (L, w, d, st, tg, hi, mi, go), rfl, ⟨hneg9, rfl⟩, f, n, hfm, by rw [ht]; exact hP, va_K.moved hW.alike hK, hD⟩, hS.F ht⟩) hS.2.2 dX2_at_39
    · skip
      obtain ⟨k, hka, hkb, ek9⟩ := am_k c_2 c_7
      subst ek9
      have hzk := hza k hka hkb
      refine lv_iload_n hx hb dX2_at_10 rfl (lv_at hl 2 rfl) ?_
      refine lv_if_lt (tgt := 24) hx hb dX2_at_11 (by decide) (fun c_11 => ?_) (fun c_11 => ?_)
      · skip
        have hneg9 : -1 = ap_at L (nI k) y := am_at_out hka hkb (Or.inl c_11)
        refine lv_iconst (v := -1) hx hb dX2_at_24 (by decide) ?_
        refine lv_goto (tgt := 39) hx hb dX2_at_25 (by decide) ?_
        exact W.iret (v := -1) hx hb hr (fun t ht hW => ⟨⟨-1, (L, w, d, st, tg, hi, mi, go), rfl, ⟨hneg9, rfl⟩, f, n, hfm, by rw [ht]; exact hP, va_K.moved hW.alike hK, hD⟩, hS.F ht⟩) hS.2.2 dX2_at_39
      · skip
        refine lv_iload_n hx hb dX2_at_14 rfl (lv_at hl 2 rfl) ?_
        refine lv_aload_n hx hb dX2_at_15 rfl (lv_at hl 0 rfl) ?_
        refine va_get (D := (dC, dI)) (ci := 2) (v := .ref (q 2)) (C := RX2) (T := TX2) (N := 10) hx hb hts hwX2 hown hK hP 0 rfl rfl 2 (by decide) (hts (.fieldLink RX2 13 "ArcCacheModel" "many" "[I") (by decide +kernel)) (fun _ h9 => h9) rfl dX2_at_16 ?_
        refine lv_iload_n hx hb dX2_at_19 rfl (lv_at hl 1 rfl) ?_
        refine va_iald hx hb hK hP 2 1 rfl rfl (vp_in_nI (show k < 5 by omega) (by decide)) dX2_at_20 ?_
        refine lv_topi (fun x_2 e_x_2 => ?_)
        have e_x_2 : x_2 = n k := by rw [e_x_2]; rw [nI_clamp (by omega)]
        subst e_x_2
        refine lv_topi (fun x_3 e_x_3 => ?_)
        have e_x_3 : x_3 = nI ((L k).length) := by rw [e_x_3]; exact (hfm k hka hkb).1
        subst e_x_3
        refine lv_icmp_lt (tgt := 28) hx hb dX2_at_21 (by decide) (fun c_21 => ?_) (fun c_21 => ?_)
        · skip
          obtain ⟨j, hj, ej9⟩ := al_ix c_11 (Int32.not_le.mpr c_21) (by omega)
          subst ej9
          have hpos9 : f (64 * k + j) = ap_at L (nI k) (nI j) := am_at_in hfm hka hkb hj hzk
          refine lv_aload_n hx hb dX2_at_28 rfl (lv_at hl 0 rfl) ?_
          refine va_get (D := (dC, dI)) (ci := 2) (v := .ref (q 1)) (C := RX2) (T := TX2) (N := 10) hx hb hts hwX2 hown hK hP 0 rfl rfl 1 (by decide) (hts (.fieldLink RX2 7 "ArcCacheModel" "lists" "[I") (by decide +kernel)) (fun _ h9 => h9) rfl dX2_at_29 ?_
          refine lv_bipush (v := nI 64) hx hb dX2_at_32 (by decide) ?_
          refine lv_iload_n hx hb dX2_at_34 rfl (lv_at hl 1 rfl) ?_
          refine lv_imul hx hb dX2_at_35 ?_
          refine lv_topi (fun x_4 e_x_4 => ?_)
          have e_x_4 : x_4 = nI (64 * k) := by rw [e_x_4]; exact pk_mul _ _
          subst e_x_4
          refine lv_iload_n hx hb dX2_at_36 rfl (lv_at hl 2 rfl) ?_
          refine lv_iadd hx hb dX2_at_37 ?_
          refine lv_topi (fun x_5 e_x_5 => ?_)
          have e_x_5 : x_5 = nI ((64 * k) + j) := by rw [e_x_5]; exact nI_add _ _
          subst e_x_5
          refine va_iald hx hb hK hP 1 0 rfl rfl (vp_in_nI (show (64 * k) + j < 320 by omega) (by decide)) dX2_at_38 ?_
          refine lv_topi (fun x_7 e_x_7 => ?_)
          have e_x_7 : x_7 = f ((64 * k) + j) := by rw [e_x_7]; rw [nI_clamp (by omega)]
          subst e_x_7
          exact W.iret (v := f ((64 * k) + j)) hx hb hr (fun t ht hW => ⟨⟨f ((64 * k) + j), (L, w, d, st, tg, hi, mi, go), rfl, ⟨hpos9, rfl⟩, f, n, hfm, by rw [ht]; exact hP, va_K.moved hW.alike hK, hD⟩, hS.F ht⟩) hS.2.2 dX2_at_39
        · skip
          have hneg9 : -1 = ap_at L (nI k) y := am_at_out hka hkb (Or.inr (Int32.not_lt.mp c_21))
          refine lv_iconst (v := -1) hx hb dX2_at_24 (by decide) ?_
          refine lv_goto (tgt := 39) hx hb dX2_at_25 (by decide) ?_
          exact W.iret (v := -1) hx hb hr (fun t ht hW => ⟨⟨-1, (L, w, d, st, tg, hi, mi, go), rfl, ⟨hneg9, rfl⟩, f, n, hfm, by rw [ht]; exact hP, va_K.moved hW.alike hK, hD⟩, hS.F ht⟩) hS.2.2 dX2_at_39
set_option maxHeartbeats 4000000 in
set_option maxRecDepth 100000 in
theorem c_M_length (l : Launch) (dC : Nat → ClassId) (dI : Nat → Nat → Nat) (q : Nat → Nat) (ca : Nat → ClassId) (C : Nat) (f n w d st : Nat → Int32) (tg : Nat) (hi mi go : Int32) (L : Nat → List Int32) (x : Int32) (sz : Nat) (hfm : fm_ok f n L) : Met l yX2_length wsX2_length ({ frames := 0, cells := 0, slots := 0, locals := 0 }) (va_Pc [.ref (q 0), .int x] (fun U => U.heap.size = sz ∧ va_P (dC, dI) vwCl (cm q ca C f n w d st tg hi mi go) U.heap ∧ va_K (dC, dI) vwCl (km ca) U ∧ va_D (fun _ => True) (cm q ca C f n w d st tg hi mi go))) (va_Qi (fun (r : Int32) (u : ap_U) => r = ap_len L x ∧ u = (L, w, d, st, tg, hi, mi, go)) (at_M dC dI (va_A (cm q ca C f n w d st tg hi mi go) sz) q ca C) (va_A (cm q ca C f n w d st tg hi mi go) sz)) 0 0 (va_A (cm q ca C f n w d st tg hi mi go) sz) := by
  refine Met.ofW (cc := cX2_length) (maxL := 2) (ret := (some .int)) (by decide) rfl ?_
  intro p e s m args below meth c s₁ B hml hv
  obtain ⟨rfl, hsz, hP, hK, hD0⟩ := hv
  have hx := B.exec
  have hb := B.bytes
  have hr := B.returns
  have hts := atoms_spec (ws := wsX2_length) B.pre
  have hown : s.vm.findClass RX2 = some m.cls := findClass_of_methodNamed B.named
  have hlocks := B.notSynchronized
  have hwX2 : ∀ w ∈ u_ws RX2 TX2 10, w ∈ wsX2_length := by decide +kernel
  subst hsz
  have hD := hD0.self (sz := s.heap.size)
  generalize hAe : va_A (cm q ca C f n w d st tg hi mi go) s.heap.size = A at hD ⊢
  have hA : ∀ q : Nat, s.heap.size ≤ q → A q := fun q h => by rw [← hAe]; exact Or.inr h
  have hS0 : ∀ H, s.heap = H → va_S A s.heap H [] := fun H h => by subst h; exact va_S.rf
  have hl := lv_entry ([.ref (q 0), .int x]) (n := 2) (Nat.le_of_ble_eq_true rfl)
  rw [lg_entry_eq]
  generalize (lg_sl ([.ref (q 0), .int x]) ++ List.replicate (2 - (lg_sl ([.ref (q 0), .int x])).length) Slot.unset).toArray = ls at hl ⊢
  have hl : lv_has ls 2 [(0, .ref (q 0)), (1, .int x)] := hl
  generalize hHe : s.heap = H at hP ⊢
  have hS := hS0 H hHe
  refine lv_iload_n hx hb dX2_length_0 rfl (lv_at hl 1 rfl) ?_
  refine lv_iconst (v := nI 1) hx hb dX2_length_1 (by decide) ?_
  refine lv_icmp_lt (tgt := 10) hx hb dX2_length_2 (by decide) (fun c_2 => ?_) (fun c_2 => ?_)
  · skip
    have hneg9 : -1 = ap_len L x := am_len_no (Or.inl c_2)
    refine lv_iconst (v := -1) hx hb dX2_length_10 (by decide) ?_
    refine lv_goto (tgt := 20) hx hb dX2_length_11 (by decide) ?_
    exact W.iret (v := -1) hx hb hr (fun t ht hW => ⟨⟨-1, (L, w, d, st, tg, hi, mi, go), rfl, ⟨hneg9, rfl⟩, f, n, hfm, by rw [ht]; exact hP, va_K.moved hW.alike hK, hD⟩, hS.F ht⟩) hS.2.2 dX2_length_20
  · skip
    refine lv_iload_n hx hb dX2_length_5 rfl (lv_at hl 1 rfl) ?_
    refine lv_iconst (v := nI 4) hx hb dX2_length_6 (by decide) ?_
    refine lv_icmp_le (tgt := 14) hx hb dX2_length_7 (by decide) (fun c_7 => ?_) (fun c_7 => ?_)
    · skip
      obtain ⟨k, hka, hkb, ek9⟩ := am_k c_2 (Int32.not_lt.mpr c_7)
      subst ek9
      have hpos9 : nI (L k).length = ap_len L (nI k) := am_len hka hkb
      refine lv_aload_n hx hb dX2_length_14 rfl (lv_at hl 0 rfl) ?_
      refine va_get (D := (dC, dI)) (ci := 2) (v := .ref (q 2)) (C := RX2) (T := TX2) (N := 10) hx hb hts hwX2 hown hK hP 0 rfl rfl 2 (by decide) (hts (.fieldLink RX2 13 "ArcCacheModel" "many" "[I") (by decide +kernel)) (fun _ h9 => h9) rfl dX2_length_15 ?_
      refine lv_iload_n hx hb dX2_length_18 rfl (lv_at hl 1 rfl) ?_
      refine va_iald hx hb hK hP 2 1 rfl rfl (vp_in_nI (show k < 5 by omega) (by decide)) dX2_length_19 ?_
      refine lv_topi (fun x_2 e_x_2 => ?_)
      have e_x_2 : x_2 = n k := by rw [e_x_2]; rw [nI_clamp (by omega)]
      subst e_x_2
      refine lv_topi (fun x_3 e_x_3 => ?_)
      have e_x_3 : x_3 = nI ((L k).length) := by rw [e_x_3]; exact (hfm k hka hkb).1
      subst e_x_3
      exact W.iret (v := nI ((L k).length)) hx hb hr (fun t ht hW => ⟨⟨nI ((L k).length), (L, w, d, st, tg, hi, mi, go), rfl, ⟨hpos9, rfl⟩, f, n, hfm, by rw [ht]; exact hP, va_K.moved hW.alike hK, hD⟩, hS.F ht⟩) hS.2.2 dX2_length_20
    · skip
      have hneg9 : -1 = ap_len L x := am_len_no (Or.inr (Int32.not_le.mp c_7))
      refine lv_iconst (v := -1) hx hb dX2_length_10 (by decide) ?_
      refine lv_goto (tgt := 20) hx hb dX2_length_11 (by decide) ?_
      exact W.iret (v := -1) hx hb hr (fun t ht hW => ⟨⟨-1, (L, w, d, st, tg, hi, mi, go), rfl, ⟨hneg9, rfl⟩, f, n, hfm, by rw [ht]; exact hP, va_K.moved hW.alike hK, hD⟩, hS.F ht⟩) hS.2.2 dX2_length_20
set_option maxHeartbeats 4000000 in
set_option maxRecDepth 100000 in
theorem c_M_init_ (l : Launch) (dC : Nat → ClassId) (dI : Nat → Nat → Nat) (q : Nat → Nat) (ca : Nat → ClassId) (C : Nat) (f n w d st : Nat → Int32) (tg : Nat) (hi mi go : Int32) (L : Nat → List Int32)  (sz : Nat) (hfm : fm_ok f n L) : Met l yX2_init_ wsX2_init_ ({ frames := 0, cells := 0, slots := 0, locals := 0 }) (va_Pc [.ref (q 0)] (fun U => U.heap.size = sz ∧ va_P (dC, dI) vwCl (cm q ca C f n w d st tg hi mi go) U.heap ∧ va_K (dC, dI) vwCl (km ca) U ∧ va_D (fun _ => True) (cm q ca C f n w d st tg hi mi go))) (va_Qv (fun (u : ap_U) => u = (fun _ => [], ap_z 64 w, ap_z 64 d, ap_z 64 st, 0, 0, 0, 0)) (at_M dC dI (va_A (cm q ca C f n w d st tg hi mi go) sz) q ca C) (va_A (cm q ca C f n w d st tg hi mi go) sz)) 0 0 (va_A (cm q ca C f n w d st tg hi mi go) sz) := by
  refine Met.ofW (cc := cX2_init_) (maxL := 2) (ret := none) (by decide) rfl ?_
  intro p e s m args below meth c s₁ B hml hv
  obtain ⟨rfl, hsz, hP, hK, hD0⟩ := hv
  have hx := B.exec
  have hb := B.bytes
  have hr := B.returns
  have hts := atoms_spec (ws := wsX2_init_) B.pre
  have hown : s.vm.findClass RX2 = some m.cls := findClass_of_methodNamed B.named
  have hlocks := B.notSynchronized
  have hwX2 : ∀ w ∈ u_ws RX2 TX2 10, w ∈ wsX2_init_ := by decide +kernel
  subst hsz
  have hD := hD0.self (sz := s.heap.size)
  generalize hAe : va_A (cm q ca C f n w d st tg hi mi go) s.heap.size = A at hD ⊢
  have hA : ∀ q : Nat, s.heap.size ≤ q → A q := fun q h => by rw [← hAe]; exact Or.inr h
  have hS0 : ∀ H, s.heap = H → va_S A s.heap H [] := fun H h => by subst h; exact va_S.rf
  have hl := lv_entry ([.ref (q 0)]) (n := 2) (Nat.le_of_ble_eq_true rfl)
  rw [lg_entry_eq]
  generalize (lg_sl ([.ref (q 0)]) ++ List.replicate (2 - (lg_sl ([.ref (q 0)])).length) Slot.unset).toArray = ls at hl ⊢
  have hl : lv_has ls 2 [(0, .ref (q 0))] := hl
  generalize hHe : s.heap = H at hP ⊢
  have hS := hS0 H hHe
  refine lv_iconst (v := nI 0) hx hb dX2_init__0 (by decide) ?_
  refine lv_istore_n (lv' := [(1, .int (nI 0)), (0, .ref (q 0))]) hx hb dX2_init__1 rfl hl (by decide) rfl (fun ls hl => ?_)
  rw [← ap_z_0 (f := n)] at hP hD
  have loop : ∀ (k : Nat) (i : Nat) (ls : Array Slot) (H : Heap) (locs : List Loc), (i ≤ 5) → lv_has ls 2 [(0, .ref (q 0)), (1, .int (nI i))] → va_P (dC, dI) vwCl (cm q ca C f (ap_z i n) w d st tg hi mi go) H → va_D A (cm q ca C f (ap_z i n) w d st tg hi mi go) → va_S A s.heap H locs → 6 ≤ i + k → W p l e (headSpec wsX2_init_ ({ frames := 0, cells := 0, slots := 0, locals := 0 })).room s m ([.ref (q 0)] : List Value).toArray below meth c H locs 0 0 (MQ below (va_Qv (fun (u : ap_U) => u = (fun _ => [], ap_z 64 w, ap_z 64 d, ap_z 64 st, 0, 0, 0, 0)) (at_M dC dI A q ca C) A) ([.ref (q 0)] : List Value).toArray s 0 0 A) (F0 m 2 ls []) := by
    intro k
    induction k with
    | zero => intro i ls H locs hi5 hl hP hD hS hk; exact absurd hk (by omega)
    | succ k ih =>
      intro i ls H locs hi5 hl hP hD hS hk
      refine lv_iload_n hx hb dX2_init__2 rfl (lv_at hl 1 rfl) ?_
      refine lv_iconst (v := nI 5) hx hb dX2_init__3 (by decide) ?_
      refine lv_icmp_ge (tgt := 20) hx hb dX2_init__4 (by decide) (fun c_4 => ?_) (fun c_4 => ?_)
      · skip
        replace c_4 : 5 ≤ i := (nI_leI (a := 5) (b := i) (by omega) (by omega)).mp c_4
        have e5 : i = 5 := by omega
        subst e5
        have hfe9 : fm_ok f (ap_z 5 n) (fun _ => []) := fun k h1 h4 => ⟨by unfold ap_z; rw [if_pos (by omega)]; rfl, ar_nil⟩
        refine lv_iconst (v := nI 0) hx hb dX2_init__20 (by decide) ?_
        refine lv_istore_n (lv' := [(1, .int (nI 0)), (0, .ref (q 0))]) hx hb dX2_init__21 rfl hl (by decide) rfl (fun ls hl => ?_)
        rw [← ap_z_0 (f := st), ← ap_z_0 (f := w), ← ap_z_0 (f := d)] at hP hD
        have loop2 : ∀ (k : Nat) (i : Nat) (ls : Array Slot) (H : Heap) (locs : List Loc), (i ≤ 64) → lv_has ls 2 [(0, .ref (q 0)), (1, .int (nI i))] → va_P (dC, dI) vwCl (cm q ca C f (ap_z 5 n) (ap_z i w) (ap_z i d) (ap_z i st) tg hi mi go) H → va_D A (cm q ca C f (ap_z 5 n) (ap_z i w) (ap_z i d) (ap_z i st) tg hi mi go) → va_S A s.heap H locs → 65 ≤ i + k → W p l e (headSpec wsX2_init_ ({ frames := 0, cells := 0, slots := 0, locals := 0 })).room s m ([.ref (q 0)] : List Value).toArray below meth c H locs 0 0 (MQ below (va_Qv (fun (u : ap_U) => u = (fun _ => [], ap_z 64 w, ap_z 64 d, ap_z 64 st, 0, 0, 0, 0)) (at_M dC dI A q ca C) A) ([.ref (q 0)] : List Value).toArray s 0 0 A) (F0 m 22 ls []) := by
          intro k
          induction k with
          | zero => intro i ls H locs hi64 hl hP hD hS hk; exact absurd hk (by omega)
          | succ k ih =>
            intro i ls H locs hi64 hl hP hD hS hk
            refine lv_iload_n hx hb dX2_init__22 rfl (lv_at hl 1 rfl) ?_
            refine lv_bipush (v := nI 64) hx hb dX2_init__23 (by decide) ?_
            refine lv_icmp_ge (tgt := 55) hx hb dX2_init__25 (by decide) (fun c_25 => ?_) (fun c_25 => ?_)
            · skip
              replace c_25 : 64 ≤ i := (nI_leI (a := 64) (b := i) (by omega) (by omega)).mp c_25
              have e64 : i = 64 := by omega
              subst e64
              refine lv_aload_n hx hb dX2_init__55 rfl (lv_at hl 0 rfl) ?_
              refine lv_iconst (v := nI 0) hx hb dX2_init__56 (by decide) ?_
              refine va_put (D := (dC, dI)) (ci := 2) (v := .int (nI 0)) (ty := .int) (C := RX2) (T := TX2) (N := 10) hx hb hts hwX2 tyX2 tyX2_ok nmX2 hown hK hP hD hS 0 rfl rfl 6 (by decide) (hts (.fieldLink RX2 30 "ArcCacheModel" "target" "I") (by decide +kernel)) (fun _ h9 => h9) rfl (by decide +kernel) rfl rfl (Nat.le_of_ble_eq_true rfl) dX2_init__57 (fun H locs hP hD hS => ?_)
              replace hP : va_P (dC, dI) vwCl (cm q ca C f (ap_z 5 n) (ap_z 64 w) (ap_z 64 d) (ap_z 64 st) 0 hi mi go) H := hP
              replace hD : va_D A (cm q ca C f (ap_z 5 n) (ap_z 64 w) (ap_z 64 d) (ap_z 64 st) 0 hi mi go) := hD
              refine lv_aload_n hx hb dX2_init__60 rfl (lv_at hl 0 rfl) ?_
              refine lv_iconst (v := nI 0) hx hb dX2_init__61 (by decide) ?_
              refine va_put (D := (dC, dI)) (ci := 2) (v := .int (nI 0)) (ty := .int) (C := RX2) (T := TX2) (N := 10) hx hb hts hwX2 tyX2 tyX2_ok nmX2 hown hK hP hD hS 0 rfl rfl 7 (by decide) (hts (.fieldLink RX2 33 "ArcCacheModel" "hits" "I") (by decide +kernel)) (fun _ h9 => h9) rfl (by decide +kernel) rfl rfl (Nat.le_of_ble_eq_true rfl) dX2_init__62 (fun H locs hP hD hS => ?_)
              replace hP : va_P (dC, dI) vwCl (cm q ca C f (ap_z 5 n) (ap_z 64 w) (ap_z 64 d) (ap_z 64 st) 0 (nI 0) mi go) H := hP
              replace hD : va_D A (cm q ca C f (ap_z 5 n) (ap_z 64 w) (ap_z 64 d) (ap_z 64 st) 0 (nI 0) mi go) := hD
              refine lv_aload_n hx hb dX2_init__65 rfl (lv_at hl 0 rfl) ?_
              refine lv_iconst (v := nI 0) hx hb dX2_init__66 (by decide) ?_
              refine va_put (D := (dC, dI)) (ci := 2) (v := .int (nI 0)) (ty := .int) (C := RX2) (T := TX2) (N := 10) hx hb hts hwX2 tyX2 tyX2_ok nmX2 hown hK hP hD hS 0 rfl rfl 8 (by decide) (hts (.fieldLink RX2 36 "ArcCacheModel" "misses" "I") (by decide +kernel)) (fun _ h9 => h9) rfl (by decide +kernel) rfl rfl (Nat.le_of_ble_eq_true rfl) dX2_init__67 (fun H locs hP hD hS => ?_)
              replace hP : va_P (dC, dI) vwCl (cm q ca C f (ap_z 5 n) (ap_z 64 w) (ap_z 64 d) (ap_z 64 st) 0 (nI 0) (nI 0) go) H := hP
              replace hD : va_D A (cm q ca C f (ap_z 5 n) (ap_z 64 w) (ap_z 64 d) (ap_z 64 st) 0 (nI 0) (nI 0) go) := hD
              refine lv_aload_n hx hb dX2_init__70 rfl (lv_at hl 0 rfl) ?_
              refine lv_iconst (v := nI 0) hx hb dX2_init__71 (by decide) ?_
              refine va_put (D := (dC, dI)) (ci := 2) (v := .int (nI 0)) (ty := .int) (C := RX2) (T := TX2) (N := 10) hx hb hts hwX2 tyX2 tyX2_ok nmX2 hown hK hP hD hS 0 rfl rfl 9 (by decide) (hts (.fieldLink RX2 39 "ArcCacheModel" "gone" "I") (by decide +kernel)) (fun _ h9 => h9) rfl (by decide +kernel) rfl rfl (Nat.le_of_ble_eq_true rfl) dX2_init__72 (fun H locs hP hD hS => ?_)
              replace hP : va_P (dC, dI) vwCl (cm q ca C f (ap_z 5 n) (ap_z 64 w) (ap_z 64 d) (ap_z 64 st) 0 (nI 0) (nI 0) (nI 0)) H := hP
              replace hD : va_D A (cm q ca C f (ap_z 5 n) (ap_z 64 w) (ap_z 64 d) (ap_z 64 st) 0 (nI 0) (nI 0) (nI 0)) := hD
              exact W.vret hx hb hr (fun t ht hW => ⟨⟨(fun _ => [], ap_z 64 w, ap_z 64 d, ap_z 64 st, 0, 0, 0, 0), rfl, rfl, f, ap_z 5 n, hfe9, by rw [ht]; exact hP, va_K.moved hW.alike hK, hD⟩, hS.F ht⟩) hS.2.2 dX2_init__75
            · skip
              replace c_25 : ¬ (64 ≤ i) := fun h9 => c_25 ((nI_leI (a := 64) (b := i) (by omega) (by omega)).mpr h9)
              refine lv_aload_n hx hb dX2_init__28 rfl (lv_at hl 0 rfl) ?_
              refine va_get (D := (dC, dI)) (ci := 2) (v := .ref (q 3)) (C := RX2) (T := TX2) (N := 10) hx hb hts hwX2 hown hK hP 0 rfl rfl 3 (by decide) (hts (.fieldLink RX2 16 "ArcCacheModel" "store" "[I") (by decide +kernel)) (fun _ h9 => h9) rfl dX2_init__29 ?_
              refine lv_iload_n hx hb dX2_init__32 rfl (lv_at hl 1 rfl) ?_
              refine lv_iconst (v := nI 0) hx hb dX2_init__33 (by decide) ?_
              refine va_iast hx hb hK hP hD hS 3 2 rfl rfl (vp_in_nI (show i < 64 by omega) (by decide)) dX2_init__34 (fun H locs hP hD hS => ?_)
              rw [nI_clamp (show i < 2 ^ 31 by omega)] at hP hD
              replace hP : va_P (dC, dI) vwCl (cm q ca C f (ap_z 5 n) (ap_z i w) (ap_z i d) (upd (ap_z i st) i (nI 0)) tg hi mi go) H := hP
              replace hD : va_D A (cm q ca C f (ap_z 5 n) (ap_z i w) (ap_z i d) (upd (ap_z i st) i (nI 0)) tg hi mi go) := hD
              refine lv_aload_n hx hb dX2_init__35 rfl (lv_at hl 0 rfl) ?_
              refine va_get (D := (dC, dI)) (ci := 2) (v := .ref (q 4)) (C := RX2) (T := TX2) (N := 10) hx hb hts hwX2 hown hK hP 0 rfl rfl 4 (by decide) (hts (.fieldLink RX2 19 "ArcCacheModel" "words" "[I") (by decide +kernel)) (fun _ h9 => h9) rfl dX2_init__36 ?_
              refine lv_iload_n hx hb dX2_init__39 rfl (lv_at hl 1 rfl) ?_
              refine lv_iconst (v := nI 0) hx hb dX2_init__40 (by decide) ?_
              refine va_iast hx hb hK hP hD hS 4 3 rfl rfl (vp_in_nI (show i < 64 by omega) (by decide)) dX2_init__41 (fun H locs hP hD hS => ?_)
              rw [nI_clamp (show i < 2 ^ 31 by omega)] at hP hD
              replace hP : va_P (dC, dI) vwCl (cm q ca C f (ap_z 5 n) (upd (ap_z i w) i (nI 0)) (ap_z i d) (upd (ap_z i st) i (nI 0)) tg hi mi go) H := hP
              replace hD : va_D A (cm q ca C f (ap_z 5 n) (upd (ap_z i w) i (nI 0)) (ap_z i d) (upd (ap_z i st) i (nI 0)) tg hi mi go) := hD
              refine lv_aload_n hx hb dX2_init__42 rfl (lv_at hl 0 rfl) ?_
              refine va_get (D := (dC, dI)) (ci := 2) (v := .ref (q 5)) (C := RX2) (T := TX2) (N := 10) hx hb hts hwX2 hown hK hP 0 rfl rfl 5 (by decide) (hts (.fieldLink RX2 22 "ArcCacheModel" "dirty" "[Z") (by decide +kernel)) (fun _ h9 => h9) rfl dX2_init__43 ?_
              refine lv_iload_n hx hb dX2_init__46 rfl (lv_at hl 1 rfl) ?_
              refine lv_iconst (v := nI 0) hx hb dX2_init__47 (by decide) ?_
              refine va_zast hx hb hK hP hD hS 5 4 rfl rfl (vp_in_nI (show i < 64 by omega) (by decide)) dX2_init__48 (fun H locs hP hD hS => ?_)
              rw [ap_nar0, nI_clamp (show i < 2 ^ 31 by omega)] at hP hD
              replace hP : va_P (dC, dI) vwCl (cm q ca C f (ap_z 5 n) (upd (ap_z i w) i (nI 0)) (upd (ap_z i d) i 0) (upd (ap_z i st) i (nI 0)) tg hi mi go) H := hP
              replace hD : va_D A (cm q ca C f (ap_z 5 n) (upd (ap_z i w) i (nI 0)) (upd (ap_z i d) i 0) (upd (ap_z i st) i (nI 0)) tg hi mi go) := hD
              refine lv_iinc (v := nI (i + 1)) (lv' := [(1, .int (nI (i + 1))), (0, .ref (q 0))]) hx hb dX2_init__49 hl (k := 1) rfl (nI_add _ _) (by decide) rfl (fun ls hl => ?_)
              refine lv_goto (tgt := 22) hx hb dX2_init__52 (by decide) ?_
              replace hP : va_P (dC, dI) vwCl (cm q ca C f (ap_z 5 n) (ap_z (i + 1) w) (ap_z (i + 1) d) (ap_z (i + 1) st) tg hi mi go) H := by rw [← ap_z_s (f := st) (i := i), ← ap_z_s (f := w) (i := i), ← ap_z_s (f := d) (i := i)]; exact hP
              replace hD : va_D A (cm q ca C f (ap_z 5 n) (ap_z (i + 1) w) (ap_z (i + 1) d) (ap_z (i + 1) st) tg hi mi go) := by rw [← ap_z_s (f := st) (i := i), ← ap_z_s (f := w) (i := i), ← ap_z_s (f := d) (i := i)]; exact hD
              exact ih (i + 1) _ _ _ (by omega) (lv_sub hl [1, 0] rfl) hP hD hS (by omega)
        exact loop2 65 0 ls H _ (Nat.zero_le _) (lv_sub hl [1, 0] rfl) hP hD hS (by omega)
      · skip
        replace c_4 : ¬ (5 ≤ i) := fun h9 => c_4 ((nI_leI (a := 5) (b := i) (by omega) (by omega)).mpr h9)
        refine lv_aload_n hx hb dX2_init__7 rfl (lv_at hl 0 rfl) ?_
        refine va_get (D := (dC, dI)) (ci := 2) (v := .ref (q 2)) (C := RX2) (T := TX2) (N := 10) hx hb hts hwX2 hown hK hP 0 rfl rfl 2 (by decide) (hts (.fieldLink RX2 13 "ArcCacheModel" "many" "[I") (by decide +kernel)) (fun _ h9 => h9) rfl dX2_init__8 ?_
        refine lv_iload_n hx hb dX2_init__11 rfl (lv_at hl 1 rfl) ?_
        refine lv_iconst (v := nI 0) hx hb dX2_init__12 (by decide) ?_
        refine va_iast hx hb hK hP hD hS 2 1 rfl rfl (vp_in_nI (show i < 5 by omega) (by decide)) dX2_init__13 (fun H locs hP hD hS => ?_)
        rw [nI_clamp (show i < 2 ^ 31 by omega)] at hP hD
        replace hP : va_P (dC, dI) vwCl (cm q ca C f (upd (ap_z i n) i (nI 0)) w d st tg hi mi go) H := hP
        replace hD : va_D A (cm q ca C f (upd (ap_z i n) i (nI 0)) w d st tg hi mi go) := hD
        refine lv_iinc (v := nI (i + 1)) (lv' := [(1, .int (nI (i + 1))), (0, .ref (q 0))]) hx hb dX2_init__14 hl (k := 1) rfl (nI_add _ _) (by decide) rfl (fun ls hl => ?_)
        refine lv_goto (tgt := 2) hx hb dX2_init__17 (by decide) ?_
        replace hP : va_P (dC, dI) vwCl (cm q ca C f (ap_z (i + 1) n) w d st tg hi mi go) H := by rw [← ap_z_s (f := n) (i := i)]; exact hP
        replace hD : va_D A (cm q ca C f (ap_z (i + 1) n) w d st tg hi mi go) := by rw [← ap_z_s (f := n) (i := i)]; exact hD
        exact ih (i + 1) _ _ _ (by omega) (lv_sub hl [1, 0] rfl) hP hD hS (by omega)
  exact loop 6 0 ls H _ (Nat.zero_le _) (lv_sub hl [1, 0] rfl) hP hD hS (by omega)
