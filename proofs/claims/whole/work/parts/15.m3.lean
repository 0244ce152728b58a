-- THE REFERENCE, third part (laid by wip/gen/mm3.py)
theorem ap_ge0 {a b : Nat} (ha : a < 2 ^ 30) (hb : b < 2 ^ 30) (h : 0 ≤ nI a - nI b) : b ≤ a := by
  have e := pk_sub_toInt ha hb
  have h1 := Int32.le_iff_toInt_le.mp h
  rw [e] at h1
  have h0 : (0 : Int32).toInt = 0 := rfl
  omega
theorem ap_lt0 {a b : Nat} (ha : a < 2 ^ 30) (hb : b < 2 ^ 30) (h : ¬ 0 ≤ nI a - nI b) : a < b := by
  rcases Nat.lt_or_ge a b with h1 | h1
  · exact h1
  · rw [pk_sub h1] at h
    exact absurd (nI_pos' (by omega)) h
abbrev cmr (q : Nat → Nat) (c : Nat → ClassId) (C : Nat) (f n w d st : Nat → Int32) (t : Int32) (hi mi go : Int32) : va_W := [(q 0, .inr (2, [.int (nI C), .ref (q 1), .ref (q 2), .ref (q 3), .ref (q 4), .ref (q 5), .int t, .int hi, .int mi, .int go])), (q 1, .inl (c 1, 320, .inl f)), (q 2, .inl (c 2, 5, .inl n)), (q 3, .inl (c 3, 64, .inl st)), (q 4, .inl (c 4, 64, .inl w)), (q 5, .inl (c 5, 64, .inl d))]
set_option maxHeartbeats 4000000 in
set_option maxRecDepth 100000 in
theorem c_M_makeRoom (l : Launch) (dC : Nat → ClassId) (dI : Nat → Nat → Nat) (q : Nat → Nat) (ca : Nat → ClassId) (C : Nat) (f n w d st : Nat → Int32) (tg : Nat) (hi mi go : Int32) (L : Nat → List Int32) (x : Int32) (sz : Nat) (hfm : fm_ok f n L) (hI : ap_inv L) (hz : ap_tot L ≤ 48) (htg : tg ≤ 48) : Met l yX2_makeRoom wsX2_makeRoom ({ frames := 3, cells := 0, slots := 0, locals := 70 }) (va_Pc [.ref (q 0), .int x] (fun U => U.heap.size = sz ∧ va_P (dC, dI) vwCl (cm q ca C f n w d st tg hi mi go) U.heap ∧ va_K (dC, dI) vwCl (km ca) U ∧ va_D (fun _ => True) (cm q ca C f n w d st tg hi mi go))) (va_Qv (fun (u : ap_U) => u = ap_tu w tg hi mi (ap_mk w tg x (L, d, st, go))) (at_M dC dI (va_A (cm q ca C f n w d st tg hi mi go) sz) q ca C) (va_A (cm q ca C f n w d st tg hi mi go) sz)) 0 0 (va_A (cm q ca C f n w d st tg hi mi go) sz) := by
  refine Met.ofW (cc := cX2_makeRoom) (maxL := 5) (ret := none) (by decide) rfl ?_
  intro p e s m args below meth c s₁ B hml hv
  obtain ⟨rfl, hsz, hP, hK, hD0⟩ := hv
  have hx := B.exec
  have hb := B.bytes
  have hr := B.returns
  have hts := atoms_spec (ws := wsX2_makeRoom) B.pre
  have hown : s.vm.findClass RX2 = some m.cls := findClass_of_methodNamed B.named
  have hlocks := B.notSynchronized
  have hwX2 : ∀ w ∈ u_ws RX2 TX2 10, w ∈ wsX2_makeRoom := by decide +kernel
  subst hsz
  have hD := hD0.self (sz := s.heap.size)
  generalize hAe : va_A (cm q ca C f n w d st tg hi mi go) s.heap.size = A at hD ⊢
  have hA : ∀ q : Nat, s.heap.size ≤ q → A q := fun q h => by rw [← hAe]; exact Or.inr h
  have hS0 : ∀ H, s.heap = H → va_S A s.heap H [] := fun H h => by subst h; exact va_S.rf
  have hl := lv_entry ([.ref (q 0), .int x]) (n := 5) (Nat.le_of_ble_eq_true rfl)
  rw [lg_entry_eq]
  generalize (lg_sl ([.ref (q 0), .int x]) ++ List.replicate (5 - (lg_sl ([.ref (q 0), .int x])).length) Slot.unset).toArray = ls at hl ⊢
  have hl : lv_has ls 5 [(0, .ref (q 0)), (1, .int x)] := hl
  generalize hHe : s.heap = H at hP ⊢
  have hS := hS0 H hHe
  have z1 : (L 1).length ≤ 48 := by unfold ap_tot at hz; omega
  have z2 : (L 2).length ≤ 48 := by unfold ap_tot at hz; omega
  have z3 : (L 3).length ≤ 48 := by unfold ap_tot at hz; omega
  have z4 : (L 4).length ≤ 48 := by unfold ap_tot at hz; omega
  have hwle9 := ap_wl_le L x
  refine lv_aload_n hx hb dX2_makeRoom_0 rfl (lv_at hl 0 rfl) ?_
  refine va_get (D := (dC, dI)) (ci := 2) (v := .ref (q 2)) (C := RX2) (T := TX2) (N := 10) hx hb hts hwX2 hown hK hP 0 rfl rfl 2 (by decide) (hts (.fieldLink RX2 13 "ArcCacheModel" "many" "[I") (by decide +kernel)) (fun _ h9 => h9) rfl dX2_makeRoom_1 ?_
  refine lv_iconst (v := nI 1) hx hb dX2_makeRoom_4 (by decide) ?_
  refine va_iald hx hb hK hP 2 1 rfl rfl (vp_in_nI (show 1 < 5 by omega) (by decide)) dX2_makeRoom_5 ?_
  refine lv_topi (fun x_2 e_x_2 => ?_)
  have e_x_2 : x_2 = n 1 := by rw [e_x_2]; rw [nI_clamp (by omega)]
  subst e_x_2
  refine lv_topi (fun x_3 e_x_3 => ?_)
  have e_x_3 : x_3 = nI ((L 1).length) := by rw [e_x_3]; exact (hfm 1 (by decide) (by decide)).1
  subst e_x_3
  refine lv_aload_n hx hb dX2_makeRoom_6 rfl (lv_at hl 0 rfl) ?_
  refine va_get (D := (dC, dI)) (ci := 2) (v := .int (nI tg)) (C := RX2) (T := TX2) (N := 10) hx hb hts hwX2 hown hK hP 0 rfl rfl 6 (by decide) (hts (.fieldLink RX2 30 "ArcCacheModel" "target" "I") (by decide +kernel)) (fun _ h9 => h9) rfl dX2_makeRoom_7 ?_
  refine lv_icmp_gt (tgt := 42) hx hb dX2_makeRoom_10 (by decide) (fun c_10 => ?_) (fun c_10 => ?_)
  · skip
    replace c_10 : tg < ((L 1).length) := (nI_ltI (a := tg) (b := (L 1).length) (by omega) (by omega)).mp c_10
    refine lv_iconst (v := nI 1) hx hb dX2_makeRoom_42 (by decide) ?_
    refine lv_goto (tgt := 47) hx hb dX2_makeRoom_43 (by decide) ?_
    refine lv_istore_n (lv' := [(2, .int (nI 1)), (0, .ref (q 0)), (1, .int x)]) hx hb dX2_makeRoom_47 rfl hl (by decide) rfl (fun ls hl => ?_)
    refine lv_iload_n hx hb dX2_makeRoom_48 rfl (lv_at hl 0 rfl) ?_
    refine lv_if_eq (tgt := 56) hx hb dX2_makeRoom_49 (by decide) (fun c_49 => ?_) (fun c_49 => ?_)
    · skip
      replace c_49 : 1 = 0 := (nI_eq (a := 1) (b := 0) (by omega) (by omega)).mp c_49
      exact absurd c_49 (by omega)
    · skip
      replace c_49 : ¬ (1 = 0) := fun h9 => c_49 ((nI_eq (a := 1) (b := 0) (by omega) (by omega)).mpr h9)
      refine lv_iconst (v := nI 1) hx hb dX2_makeRoom_52 (by decide) ?_
      refine lv_goto (tgt := 57) hx hb dX2_makeRoom_53 (by decide) ?_
      refine lv_istore_n (lv' := [(3, .int (nI 1)), (2, .int (nI 1)), (0, .ref (q 0)), (1, .int x)]) hx hb dX2_makeRoom_57 rfl hl (by decide) rfl (fun ls hl => ?_)
      have hcd9 : tg < (L 1).length ∨ ((L 1).length = tg ∧ 0 < tg ∧ ap_wl L x = 4) := by first | exact Or.inl c_10 | exact Or.inr ⟨c_23, by omega, c_39⟩
      have emk9 : ap_mk w tg x (L, d, st, go) = ap_og w 1 (L, d, st, go) := ap_mk_1 hcd9
      refine lv_aload_n hx hb dX2_makeRoom_58 rfl (lv_at hl 2 rfl) ?_
      refine va_get (D := (dC, dI)) (ci := 2) (v := .ref (q 2)) (C := RX2) (T := TX2) (N := 10) hx hb hts hwX2 hown hK hP 0 rfl rfl 2 (by decide) (hts (.fieldLink RX2 13 "ArcCacheModel" "many" "[I") (by decide +kernel)) (fun _ h9 => h9) rfl dX2_makeRoom_59 ?_
      refine lv_iload_n hx hb dX2_makeRoom_62 rfl (lv_at hl 0 rfl) ?_
      refine va_iald hx hb hK hP 2 1 rfl rfl (vp_in_nI (show 1 < 5 by omega) (by decide)) dX2_makeRoom_63 ?_
      refine lv_topi (fun x_5 e_x_5 => ?_)
      have e_x_5 : x_5 = n 1 := by rw [e_x_5]; rw [nI_clamp (by omega)]
      subst e_x_5
      refine lv_topi (fun x_6 e_x_6 => ?_)
      have e_x_6 : x_6 = nI ((L 1).length) := by rw [e_x_6]; exact (hfm 1 (by decide) (by decide)).1
      subst e_x_6
      refine lv_if_le (tgt := 89) hx hb dX2_makeRoom_64 (by decide) (fun c_64 => ?_) (fun c_64 => ?_)
      · skip
        replace c_64 : ((L 1).length) ≤ 0 := (nI_leI (a := (L 1).length) (b := 0) (by omega) (by omega)).mp c_64
        exact absurd c_64 (by omega)
      · skip
        replace c_64 : ¬ (((L 1).length) ≤ 0) := fun h9 => c_64 ((nI_leI (a := (L 1).length) (b := 0) (by omega) (by omega)).mpr h9)
        have hne9 : L 1 ≠ [] := ap_ne (by omega)
        have hx64 : vp_in (ap_old (L 1)) 64 := ap_old_in hI hne9
        have hwo9 : ap_wl L (ap_old (L 1)) = 1 := ap_wl_of hI (ap_old_mem hne9)
        have hfin9 : (va_up (ap_leave L (ap_old (L 1))) 3 ((ap_old (L 1)) :: ap_leave L (ap_old (L 1)) 3), w, ap_cd d (ap_old (L 1)), ap_cs w d st (ap_old (L 1)), tg, hi, mi, go + 1) = ap_tu w tg hi mi (ap_mk w tg x (L, d, st, go)) := by rw [emk9]; unfold ap_og; rw [if_neg hne9, ap_leave_1 hwo9 (by decide)]; rfl
        refine lv_aload_n hx hb dX2_makeRoom_67 rfl (lv_at hl 2 rfl) ?_
        refine lv_iload_n hx hb dX2_makeRoom_68 rfl (lv_at hl 0 rfl) ?_
        have hPc := hP.sub (ws' := (cm q ca C f n w d st tg hi mi go)) [0, 1, 2, 3, 4, 5] rfl
        have hDc := hD.sub (ws' := (cm q ca C f n w d st tg hi mi go)) [0, 1, 2, 3, 4, 5] (by decide) rfl
        have hKc := hK.sub (tys' := (km ca)) [0, 1, 2, 3, 4] rfl
        have hFc := va_free (wc := (cm q ca C f n w d st tg hi mi go)) hD hS hA [0, 1, 2, 3, 4, 5] rfl
        refine va_calli (va_runV (As := [.int (nI 1)]) (rest := []) ⟨hx, hb, hml, hown, hts⟩ (c_M_old l dC dI q ca C f n w d st tg hi mi go L 1 H.size hfm hI hz (by decide) (by decide) hne9) (cwV 1 hts gX2_makeRoom_X2_old rfl rfl rfl (by decide +kernel) ⟨Nat.le_of_ble_eq_true rfl, Nat.le_of_ble_eq_true rfl⟩) ⟨fun a U g mk q => by obtain ⟨q0, q1, qP, qK, qD⟩ := q; exact ⟨q0, q1, qP, va_K.moved (u := U) (U := U.calling g mk a) (Vm.Alike.refl U.vm) qK, qD⟩, va_recv hKc hPc (ci := 2) (q0 := 0) rfl rfl, fun U hU hW => ⟨rfl, by rw [hU], by rw [hU]; exact hPc, va_K.moved hW.alike hKc, hDc.weaken (fun _ _ _ _ => trivial)⟩⟩ rfl rfl hl.1 rfl (lv_room (Nat.le_of_ble_eq_true rfl)) dX2_makeRoom_69 ⟨Nat.le_of_ble_eq_true rfl, Nat.le_of_ble_eq_true rfl⟩) hS (fun q _ h => hFc q h) hFc (fun r u t H1 locs ht hvm hw hB hz1 hk1 hS => ?_)
        obtain ⟨L1, w1, d1, st1, tg1, hi1, mi1, go1⟩ := u
        obtain ⟨f1, n1, hf1, hP1, hK1, hD1⟩ := hB
        rw [ht] at hP1
        obtain ⟨hr9, hw⟩ := hw
        cases hw
        obtain ⟨f_7, ef_7⟩ : ∃ z, z = f1 := ⟨_, rfl⟩
        rw [← ef_7] at hf1 hP1 hD1
        clear ef_7 f1
        obtain ⟨n_8, en_8⟩ : ∃ z, z = n1 := ⟨_, rfl⟩
        rw [← en_8] at hf1 hP1 hD1
        clear en_8 n1
        have hfm_9 := hf1
        obtain ⟨hP, hD⟩ := va_join (wr := []) (w1 := (cm q ca C f_7 n_8 w d st tg hi mi go)) hP hD [0, 1, 2, 3, 4, 5] [] rfl rfl (by decide) (by decide) hk1 hFc hP1 hD1
        generalize H1 = H at hP hS ⊢
        replace hP : va_P (dC, dI) vwCl (cm q ca C f_7 n_8 w d st tg hi mi go) H := hP
        replace hD : va_D A (cm q ca C f_7 n_8 w d st tg hi mi go) := hD
        subst hr9
        refine lv_istore (lv' := [(4, .int (ap_old (L 1))), (3, .int (nI 1)), (2, .int (nI 1)), (0, .ref (q 0)), (1, .int x)]) hx hb dX2_makeRoom_72 hl (by decide) rfl (fun ls hl => ?_)
        refine lv_aload_n hx hb dX2_makeRoom_74 rfl (lv_at hl 3 rfl) ?_
        refine lv_iload hx hb dX2_makeRoom_75 (lv_at hl 0 rfl) ?_
        have hPc := hP.sub (ws' := (cm q ca C f_7 n_8 w d st tg hi mi go)) [0, 1, 2, 3, 4, 5] rfl
        have hDc := hD.sub (ws' := (cm q ca C f_7 n_8 w d st tg hi mi go)) [0, 1, 2, 3, 4, 5] (by decide) rfl
        have hKc := hK.sub (tys' := (km ca)) [0, 1, 2, 3, 4] rfl
        have hFc := va_free (wc := (cm q ca C f_7 n_8 w d st tg hi mi go)) hD hS hA [0, 1, 2, 3, 4, 5] rfl
        refine va_callv (va_runV (As := [.int (ap_old (L 1))]) (rest := []) ⟨hx, hb, hml, hown, hts⟩ (c_M_go l dC dI q ca C f_7 n_8 w d st tg hi mi go L (ap_old (L 1)) H.size hfm_9 hx64) (cwV 1 hts gX2_makeRoom_X2_go rfl rfl rfl (by decide +kernel) ⟨Nat.le_of_ble_eq_true rfl, Nat.le_of_ble_eq_true rfl⟩) ⟨fun a U g mk q => by obtain ⟨q0, q1, qP, qK, qD⟩ := q; exact ⟨q0, q1, qP, va_K.moved (u := U) (U := U.calling g mk a) (Vm.Alike.refl U.vm) qK, qD⟩, va_recv hKc hPc (ci := 2) (q0 := 0) rfl rfl, fun U hU hW => ⟨rfl, by rw [hU], by rw [hU]; exact hPc, va_K.moved hW.alike hKc, hDc.weaken (fun _ _ _ _ => trivial)⟩⟩ rfl rfl hl.1 rfl (lv_room (Nat.le_of_ble_eq_true rfl)) dX2_makeRoom_77 ⟨Nat.le_of_ble_eq_true rfl, Nat.le_of_ble_eq_true rfl⟩) hS (fun q _ h => hFc q h) hFc (fun u t H1 locs ht hvm hw hB hz1 hk1 hS => ?_)
        obtain ⟨L1, w1, d1, st1, tg1, hi1, mi1, go1⟩ := u
        obtain ⟨f1, n1, hf1, hP1, hK1, hD1⟩ := hB
        rw [ht] at hP1
        cases hw
        obtain ⟨f_10, ef_10⟩ : ∃ z, z = f1 := ⟨_, rfl⟩
        rw [← ef_10] at hf1 hP1 hD1
        clear ef_10 f1
        obtain ⟨n_11, en_11⟩ : ∃ z, z = n1 := ⟨_, rfl⟩
        rw [← en_11] at hf1 hP1 hD1
        clear en_11 n1
        have hfm_12 := hf1
        obtain ⟨hP, hD⟩ := va_join (wr := []) (w1 := (cm q ca C f_10 n_11 w (ap_cd d (ap_old (L 1))) (ap_cs w d st (ap_old (L 1))) tg hi mi (go + 1))) hP hD [0, 1, 2, 3, 4, 5] [] rfl rfl (by decide) (by decide) hk1 hFc hP1 hD1
        generalize H1 = H at hP hS ⊢
        replace hP : va_P (dC, dI) vwCl (cm q ca C f_10 n_11 w (ap_cd d (ap_old (L 1))) (ap_cs w d st (ap_old (L 1))) tg hi mi (go + 1)) H := hP
        replace hD : va_D A (cm q ca C f_10 n_11 w (ap_cd d (ap_old (L 1))) (ap_cs w d st (ap_old (L 1))) tg hi mi (go + 1)) := hD
        refine lv_aload_n hx hb dX2_makeRoom_80 rfl (lv_at hl 3 rfl) ?_
        refine lv_iload hx hb dX2_makeRoom_81 (lv_at hl 0 rfl) ?_
        refine lv_iload_n hx hb dX2_makeRoom_83 rfl (lv_at hl 1 rfl) ?_
        refine lv_iconst (v := nI 2) hx hb dX2_makeRoom_84 (by decide) ?_
        refine lv_iadd hx hb dX2_makeRoom_85 ?_
        refine lv_topi (fun x_13 e_x_13 => ?_)
        have e_x_13 : x_13 = nI 3 := by rw [e_x_13]; exact nI_add _ _
        subst e_x_13
        have hPc := hP.sub (ws' := (cm q ca C f_10 n_11 w (ap_cd d (ap_old (L 1))) (ap_cs w d st (ap_old (L 1))) tg hi mi (go + 1))) [0, 1, 2, 3, 4, 5] rfl
        have hDc := hD.sub (ws' := (cm q ca C f_10 n_11 w (ap_cd d (ap_old (L 1))) (ap_cs w d st (ap_old (L 1))) tg hi mi (go + 1))) [0, 1, 2, 3, 4, 5] (by decide) rfl
        have hKc := hK.sub (tys' := (km ca)) [0, 1, 2, 3, 4] rfl
        have hFc := va_free (wc := (cm q ca C f_10 n_11 w (ap_cd d (ap_old (L 1))) (ap_cs w d st (ap_old (L 1))) tg hi mi (go + 1))) hD hS hA [0, 1, 2, 3, 4, 5] rfl
        refine va_callv (va_runV (As := [.int (ap_old (L 1)), .int (nI 3)]) (rest := []) ⟨hx, hb, hml, hown, hts⟩ (c_M_come l dC dI q ca C f_10 n_11 w (ap_cd d (ap_old (L 1))) (ap_cs w d st (ap_old (L 1))) tg hi mi (go + 1) L (ap_old (L 1)) 3 H.size hfm_12 hI hz (by decide) (by decide)) (cwV 2 hts gX2_makeRoom_X2_come rfl rfl rfl (by decide +kernel) ⟨Nat.le_of_ble_eq_true rfl, Nat.le_of_ble_eq_true rfl⟩) ⟨fun a U g mk q => by obtain ⟨q0, q1, qP, qK, qD⟩ := q; exact ⟨q0, q1, qP, va_K.moved (u := U) (U := U.calling g mk a) (Vm.Alike.refl U.vm) qK, qD⟩, va_recv hKc hPc (ci := 2) (q0 := 0) rfl rfl, fun U hU hW => ⟨rfl, by rw [hU], by rw [hU]; exact hPc, va_K.moved hW.alike hKc, hDc.weaken (fun _ _ _ _ => trivial)⟩⟩ rfl rfl hl.1 rfl (lv_room (Nat.le_of_ble_eq_true rfl)) dX2_makeRoom_86 ⟨Nat.le_of_ble_eq_true rfl, Nat.le_of_ble_eq_true rfl⟩) hS (fun q _ h => hFc q h) hFc (fun u t H1 locs ht hvm hw hB hz1 hk1 hS => ?_)
        obtain ⟨L1, w1, d1, st1, tg1, hi1, mi1, go1⟩ := u
        obtain ⟨f1, n1, hf1, hP1, hK1, hD1⟩ := hB
        rw [ht] at hP1
        cases hw
        obtain ⟨f_14, ef_14⟩ : ∃ z, z = f1 := ⟨_, rfl⟩
        rw [← ef_14] at hf1 hP1 hD1
        clear ef_14 f1
        obtain ⟨n_15, en_15⟩ : ∃ z, z = n1 := ⟨_, rfl⟩
        rw [← en_15] at hf1 hP1 hD1
        clear en_15 n1
        have hfm_16 := hf1
        obtain ⟨hP, hD⟩ := va_join (wr := []) (w1 := (cm q ca C f_14 n_15 w (ap_cd d (ap_old (L 1))) (ap_cs w d st (ap_old (L 1))) tg hi mi (go + 1))) hP hD [0, 1, 2, 3, 4, 5] [] rfl rfl (by decide) (by decide) hk1 hFc hP1 hD1
        generalize H1 = H at hP hS ⊢
        replace hP : va_P (dC, dI) vwCl (cm q ca C f_14 n_15 w (ap_cd d (ap_old (L 1))) (ap_cs w d st (ap_old (L 1))) tg hi mi (go + 1)) H := hP
        replace hD : va_D A (cm q ca C f_14 n_15 w (ap_cd d (ap_old (L 1))) (ap_cs w d st (ap_old (L 1))) tg hi mi (go + 1)) := hD
        exact W.vret hx hb hr (fun t ht hW => ⟨⟨(va_up (ap_leave L (ap_old (L 1))) 3 ((ap_old (L 1)) :: ap_leave L (ap_old (L 1)) 3), w, ap_cd d (ap_old (L 1)), ap_cs w d st (ap_old (L 1)), tg, hi, mi, go + 1), rfl, hfin9, f_14, n_15, hfm_16, by rw [ht]; exact hP, va_K.moved hW.alike hK, hD⟩, hS.F ht⟩) hS.2.2 dX2_makeRoom_89
  · skip
    replace c_10 : ¬ (tg < ((L 1).length)) := fun h9 => c_10 ((nI_ltI (a := tg) (b := (L 1).length) (by omega) (by omega)).mpr h9)
    refine lv_aload_n hx hb dX2_makeRoom_13 rfl (lv_at hl 0 rfl) ?_
    refine va_get (D := (dC, dI)) (ci := 2) (v := .ref (q 2)) (C := RX2) (T := TX2) (N := 10) hx hb hts hwX2 hown hK hP 0 rfl rfl 2 (by decide) (hts (.fieldLink RX2 13 "ArcCacheModel" "many" "[I") (by decide +kernel)) (fun _ h9 => h9) rfl dX2_makeRoom_14 ?_
    refine lv_iconst (v := nI 1) hx hb dX2_makeRoom_17 (by decide) ?_
    refine va_iald hx hb hK hP 2 1 rfl rfl (vp_in_nI (show 1 < 5 by omega) (by decide)) dX2_makeRoom_18 ?_
    refine lv_topi (fun x_18 e_x_18 => ?_)
    have e_x_18 : x_18 = n 1 := by rw [e_x_18]; rw [nI_clamp (by omega)]
    subst e_x_18
    refine lv_topi (fun x_19 e_x_19 => ?_)
    have e_x_19 : x_19 = nI ((L 1).length) := by rw [e_x_19]; exact (hfm 1 (by decide) (by decide)).1
    subst e_x_19
    refine lv_aload_n hx hb dX2_makeRoom_19 rfl (lv_at hl 0 rfl) ?_
    refine va_get (D := (dC, dI)) (ci := 2) (v := .int (nI tg)) (C := RX2) (T := TX2) (N := 10) hx hb hts hwX2 hown hK hP 0 rfl rfl 6 (by decide) (hts (.fieldLink RX2 30 "ArcCacheModel" "target" "I") (by decide +kernel)) (fun _ h9 => h9) rfl dX2_makeRoom_20 ?_
    refine lv_icmp_ne (tgt := 46) hx hb dX2_makeRoom_23 (by decide) (fun c_23 => ?_) (fun c_23 => ?_)
    · skip
      replace c_23 : ¬ (((L 1).length) = tg) := fun h9 => c_23 ((nI_eq (a := (L 1).length) (b := tg) (by omega) (by omega)).mpr h9)
      refine lv_iconst (v := nI 0) hx hb dX2_makeRoom_46 (by decide) ?_
      refine lv_istore_n (lv' := [(2, .int (nI 0)), (0, .ref (q 0)), (1, .int x)]) hx hb dX2_makeRoom_47 rfl hl (by decide) rfl (fun ls hl => ?_)
      refine lv_iload_n hx hb dX2_makeRoom_48 rfl (lv_at hl 0 rfl) ?_
      refine lv_if_eq (tgt := 56) hx hb dX2_makeRoom_49 (by decide) (fun c_49 => ?_) (fun c_49 => ?_)
      · skip
        replace c_49 : 0 = 0 := (nI_eq (a := 0) (b := 0) (by omega) (by omega)).mp c_49
        refine lv_iconst (v := nI 2) hx hb dX2_makeRoom_56 (by decide) ?_
        refine lv_istore_n (lv' := [(3, .int (nI 2)), (2, .int (nI 0)), (0, .ref (q 0)), (1, .int x)]) hx hb dX2_makeRoom_57 rfl hl (by decide) rfl (fun ls hl => ?_)
        have hcd9 : ¬ (tg < (L 1).length ∨ ((L 1).length = tg ∧ 0 < tg ∧ ap_wl L x = 4)) := fun h9 => h9.elim c_10 (fun h9 => by first | exact c_23 h9.1 | omega | exact c_39 h9.2.2)
        have emk9 : ap_mk w tg x (L, d, st, go) = ap_og w 2 (L, d, st, go) := ap_mk_2 hcd9
        refine lv_aload_n hx hb dX2_makeRoom_58 rfl (lv_at hl 2 rfl) ?_
        refine va_get (D := (dC, dI)) (ci := 2) (v := .ref (q 2)) (C := RX2) (T := TX2) (N := 10) hx hb hts hwX2 hown hK hP 0 rfl rfl 2 (by decide) (hts (.fieldLink RX2 13 "ArcCacheModel" "many" "[I") (by decide +kernel)) (fun _ h9 => h9) rfl dX2_makeRoom_59 ?_
        refine lv_iload_n hx hb dX2_makeRoom_62 rfl (lv_at hl 0 rfl) ?_
        refine va_iald hx hb hK hP 2 1 rfl rfl (vp_in_nI (show 2 < 5 by omega) (by decide)) dX2_makeRoom_63 ?_
        refine lv_topi (fun x_21 e_x_21 => ?_)
        have e_x_21 : x_21 = n 2 := by rw [e_x_21]; rw [nI_clamp (by omega)]
        subst e_x_21
        refine lv_topi (fun x_22 e_x_22 => ?_)
        have e_x_22 : x_22 = nI ((L 2).length) := by rw [e_x_22]; exact (hfm 2 (by decide) (by decide)).1
        subst e_x_22
        refine lv_if_le (tgt := 89) hx hb dX2_makeRoom_64 (by decide) (fun c_64 => ?_) (fun c_64 => ?_)
        · skip
          replace c_64 : ((L 2).length) ≤ 0 := (nI_leI (a := (L 2).length) (b := 0) (by omega) (by omega)).mp c_64
          have he9 : L 2 = [] := List.length_eq_zero_iff.mp (by omega)
          have hfin9 : (L, w, d, st, tg, hi, mi, go) = ap_tu w tg hi mi (ap_mk w tg x (L, d, st, go)) := by rw [emk9]; unfold ap_og; rw [if_pos he9]; rfl
          exact W.vret hx hb hr (fun t ht hW => ⟨⟨(L, w, d, st, tg, hi, mi, go), rfl, hfin9, f, n, hfm, by rw [ht]; exact hP, va_K.moved hW.alike hK, hD⟩, hS.F ht⟩) hS.2.2 dX2_makeRoom_89
        · skip
          replace c_64 : ¬ (((L 2).length) ≤ 0) := fun h9 => c_64 ((nI_leI (a := (L 2).length) (b := 0) (by omega) (by omega)).mpr h9)
          have hne9 : L 2 ≠ [] := ap_ne (by omega)
          have hx64 : vp_in (ap_old (L 2)) 64 := ap_old_in hI hne9
          have hwo9 : ap_wl L (ap_old (L 2)) = 2 := ap_wl_of hI (ap_old_mem hne9)
          have hfin9 : (va_up (ap_leave L (ap_old (L 2))) 4 ((ap_old (L 2)) :: ap_leave L (ap_old (L 2)) 4), w, ap_cd d (ap_old (L 2)), ap_cs w d st (ap_old (L 2)), tg, hi, mi, go + 1) = ap_tu w tg hi mi (ap_mk w tg x (L, d, st, go)) := by rw [emk9]; unfold ap_og; rw [if_neg hne9, ap_leave_1 hwo9 (by decide)]; rfl
          refine lv_aload_n hx hb dX2_makeRoom_67 rfl (lv_at hl 2 rfl) ?_
          refine lv_iload_n hx hb dX2_makeRoom_68 rfl (lv_at hl 0 rfl) ?_
          have hPc := hP.sub (ws' := (cm q ca C f n w d st tg hi mi go)) [0, 1, 2, 3, 4, 5] rfl
          have hDc := hD.sub (ws' := (cm q ca C f n w d st tg hi mi go)) [0, 1, 2, 3, 4, 5] (by decide) rfl
          have hKc := hK.sub (tys' := (km ca)) [0, 1, 2, 3, 4] rfl
          have hFc := va_free (wc := (cm q ca C f n w d st tg hi mi go)) hD hS hA [0, 1, 2, 3, 4, 5] rfl
          refine va_calli (va_runV (As := [.int (nI 2)]) (rest := []) ⟨hx, hb, hml, hown, hts⟩ (c_M_old l dC dI q ca C f n w d st tg hi mi go L 2 H.size hfm hI hz (by decide) (by decide) hne9) (cwV 1 hts gX2_makeRoom_X2_old rfl rfl rfl (by decide +kernel) ⟨Nat.le_of_ble_eq_true rfl, Nat.le_of_ble_eq_true rfl⟩) ⟨fun a U g mk q => by obtain ⟨q0, q1, qP, qK, qD⟩ := q; exact ⟨q0, q1, qP, va_K.moved (u := U) (U := U.calling g mk a) (Vm.Alike.refl U.vm) qK, qD⟩, va_recv hKc hPc (ci := 2) (q0 := 0) rfl rfl, fun U hU hW => ⟨rfl, by rw [hU], by rw [hU]; exact hPc, va_K.moved hW.alike hKc, hDc.weaken (fun _ _ _ _ => trivial)⟩⟩ rfl rfl hl.1 rfl (lv_room (Nat.le_of_ble_eq_true rfl)) dX2_makeRoom_69 ⟨Nat.le_of_ble_eq_true rfl, Nat.le_of_ble_eq_true rfl⟩) hS (fun q _ h => hFc q h) hFc (fun r u t H1 locs ht hvm hw hB hz1 hk1 hS => ?_)
          obtain ⟨L1, w1, d1, st1, tg1, hi1, mi1, go1⟩ := u
          obtain ⟨f1, n1, hf1, hP1, hK1, hD1⟩ := hB
          rw [ht] at hP1
          obtain ⟨hr9, hw⟩ := hw
          cases hw
          obtain ⟨f_23, ef_23⟩ : ∃ z, z = f1 := ⟨_, rfl⟩
          rw [← ef_23] at hf1 hP1 hD1
          clear ef_23 f1
          obtain ⟨n_24, en_24⟩ : ∃ z, z = n1 := ⟨_, rfl⟩
          rw [← en_24] at hf1 hP1 hD1
          clear en_24 n1
          have hfm_25 := hf1
          obtain ⟨hP, hD⟩ := va_join (wr := []) (w1 := (cm q ca C f_23 n_24 w d st tg hi mi go)) hP hD [0, 1, 2, 3, 4, 5] [] rfl rfl (by decide) (by decide) hk1 hFc hP1 hD1
          generalize H1 = H at hP hS ⊢
          replace hP : va_P (dC, dI) vwCl (cm q ca C f_23 n_24 w d st tg hi mi go) H := hP
          replace hD : va_D A (cm q ca C f_23 n_24 w d st tg hi mi go) := hD
          subst hr9
          refine lv_istore (lv' := [(4, .int (ap_old (L 2))), (3, .int (nI 2)), (2, .int (nI 0)), (0, .ref (q 0)), (1, .int x)]) hx hb dX2_makeRoom_72 hl (by decide) rfl (fun ls hl => ?_)
          refine lv_aload_n hx hb dX2_makeRoom_74 rfl (lv_at hl 3 rfl) ?_
          refine lv_iload hx hb dX2_makeRoom_75 (lv_at hl 0 rfl) ?_
          have hPc := hP.sub (ws' := (cm q ca C f_23 n_24 w d st tg hi mi go)) [0, 1, 2, 3, 4, 5] rfl
          have hDc := hD.sub (ws' := (cm q ca C f_23 n_24 w d st tg hi mi go)) [0, 1, 2, 3, 4, 5] (by decide) rfl
          have hKc := hK.sub (tys' := (km ca)) [0, 1, 2, 3, 4] rfl
          have hFc := va_free (wc := (cm q ca C f_23 n_24 w d st tg hi mi go)) hD hS hA [0, 1, 2, 3, 4, 5] rfl
          refine va_callv (va_runV (As := [.int (ap_old (L 2))]) (rest := []) ⟨hx, hb, hml, hown, hts⟩ (c_M_go l dC dI q ca C f_23 n_24 w d st tg hi mi go L (ap_old (L 2)) H.size hfm_25 hx64) (cwV 1 hts gX2_makeRoom_X2_go rfl rfl rfl (by decide +kernel) ⟨Nat.le_of_ble_eq_true rfl, Nat.le_of_ble_eq_true rfl⟩) ⟨fun a U g mk q => by obtain ⟨q0, q1, qP, qK, qD⟩ := q; exact ⟨q0, q1, qP, va_K.moved (u := U) (U := U.calling g mk a) (Vm.Alike.refl U.vm) qK, qD⟩, va_recv hKc hPc (ci := 2) (q0 := 0) rfl rfl, fun U hU hW => ⟨rfl, by rw [hU], by rw [hU]; exact hPc, va_K.moved hW.alike hKc, hDc.weaken (fun _ _ _ _ => trivial)⟩⟩ rfl rfl hl.1 rfl (lv_room (Nat.le_of_ble_eq_true rfl)) dX2_makeRoom_77 ⟨Nat.le_of_ble_eq_true rfl, Nat.le_of_ble_eq_true rfl⟩) hS (fun q _ h => hFc q h) hFc (fun u t H1 locs ht hvm hw hB hz1 hk1 hS => ?_)
          obtain ⟨L1, w1, d1, st1, tg1, hi1, mi1, go1⟩ := u
          obtain ⟨f1, n1, hf1, hP1, hK1, hD1⟩ := hB
          rw [ht] at hP1
          cases hw
          obtain ⟨f_26, ef_26⟩ : ∃ z, z = f1 := ⟨_, rfl⟩
          rw [← ef_26] at hf1 hP1 hD1
          clear ef_26 f1
          obtain ⟨n_27, en_27⟩ : ∃ z, z = n1 := ⟨_, rfl⟩
          rw [← en_27] at hf1 hP1 hD1
          clear en_27 n1
          have hfm_28 := hf1
          obtain ⟨hP, hD⟩ := va_join (wr := []) (w1 := (cm q ca C f_26 n_27 w (ap_cd d (ap_old (L 2))) (ap_cs w d st (ap_old (L 2))) tg hi mi (go + 1))) hP hD [0, 1, 2, 3, 4, 5] [] rfl rfl (by decide) (by decide) hk1 hFc hP1 hD1
          generalize H1 = H at hP hS ⊢
          replace hP : va_P (dC, dI) vwCl (cm q ca C f_26 n_27 w (ap_cd d (ap_old (L 2))) (ap_cs w d st (ap_old (L 2))) tg hi mi (go + 1)) H := hP
          replace hD : va_D A (cm q ca C f_26 n_27 w (ap_cd d (ap_old (L 2))) (ap_cs w d st (ap_old (L 2))) tg hi mi (go + 1)) := hD
          refine lv_aload_n hx hb dX2_makeRoom_80 rfl (lv_at hl 3 rfl) ?_
          refine lv_iload hx hb dX2_makeRoom_81 (lv_at hl 0 rfl) ?_
          refine lv_iload_n hx hb dX2_makeRoom_83 rfl (lv_at hl 1 rfl) ?_
          refine lv_iconst (v := nI 2) hx hb dX2_makeRoom_84 (by decide) ?_
          refine lv_iadd hx hb dX2_makeRoom_85 ?_
          refine lv_topi (fun x_29 e_x_29 => ?_)
          have e_x_29 : x_29 = nI 4 := by rw [e_x_29]; exact nI_add _ _
          subst e_x_29
          have hPc := hP.sub (ws' := (cm q ca C f_26 n_27 w (ap_cd d (ap_old (L 2))) (ap_cs w d st (ap_old (L 2))) tg hi mi (go + 1))) [0, 1, 2, 3, 4, 5] rfl
          have hDc := hD.sub (ws' := (cm q ca C f_26 n_27 w (ap_cd d (ap_old (L 2))) (ap_cs w d st (ap_old (L 2))) tg hi mi (go + 1))) [0, 1, 2, 3, 4, 5] (by decide) rfl
          have hKc := hK.sub (tys' := (km ca)) [0, 1, 2, 3, 4] rfl
          have hFc := va_free (wc := (cm q ca C f_26 n_27 w (ap_cd d (ap_old (L 2))) (ap_cs w d st (ap_old (L 2))) tg hi mi (go + 1))) hD hS hA [0, 1, 2, 3, 4, 5] rfl
          refine va_callv (va_runV (As := [.int (ap_old (L 2)), .int (nI 4)]) (rest := []) ⟨hx, hb, hml, hown, hts⟩ (c_M_come l dC dI q ca C f_26 n_27 w (ap_cd d (ap_old (L 2))) (ap_cs w d st (ap_old (L 2))) tg hi mi (go + 1) L (ap_old (L 2)) 4 H.size hfm_28 hI hz (by decide) (by decide)) (cwV 2 hts gX2_makeRoom_X2_come rfl rfl rfl (by decide +kernel) ⟨Nat.le_of_ble_eq_true rfl, Nat.le_of_ble_eq_true rfl⟩) ⟨fun a U g mk q => by obtain ⟨q0, q1, qP, qK, qD⟩ := q; exact ⟨q0, q1, qP, va_K.moved (u := U) (U := U.calling g mk a) (Vm.Alike.refl U.vm) qK, qD⟩, va_recv hKc hPc (ci := 2) (q0 := 0) rfl rfl, fun U hU hW => ⟨rfl, by rw [hU], by rw [hU]; exact hPc, va_K.moved hW.alike hKc, hDc.weaken (fun _ _ _ _ => trivial)⟩⟩ rfl rfl hl.1 rfl (lv_room (Nat.le_of_ble_eq_true rfl)) dX2_makeRoom_86 ⟨Nat.le_of_ble_eq_true rfl, Nat.le_of_ble_eq_true rfl⟩) hS (fun q _ h => hFc q h) hFc (fun u t H1 locs ht hvm hw hB hz1 hk1 hS => ?_)
          obtain ⟨L1, w1, d1, st1, tg1, hi1, mi1, go1⟩ := u
          obtain ⟨f1, n1, hf1, hP1, hK1, hD1⟩ := hB
          rw [ht] at hP1
          cases hw
          obtain ⟨f_30, ef_30⟩ : ∃ z, z = f1 := ⟨_, rfl⟩
          rw [← ef_30] at hf1 hP1 hD1
          clear ef_30 f1
          obtain ⟨n_31, en_31⟩ : ∃ z, z = n1 := ⟨_, rfl⟩
          rw [← en_31] at hf1 hP1 hD1
          clear en_31 n1
          have hfm_32 := hf1
          obtain ⟨hP, hD⟩ := va_join (wr := []) (w1 := (cm q ca C f_30 n_31 w (ap_cd d (ap_old (L 2))) (ap_cs w d st (ap_old (L 2))) tg hi mi (go + 1))) hP hD [0, 1, 2, 3, 4, 5] [] rfl rfl (by decide) (by decide) hk1 hFc hP1 hD1
          generalize H1 = H at hP hS ⊢
          replace hP : va_P (dC, dI) vwCl (cm q ca C f_30 n_31 w (ap_cd d (ap_old (L 2))) (ap_cs w d st (ap_old (L 2))) tg hi mi (go + 1)) H := hP
          replace hD : va_D A (cm q ca C f_30 n_31 w (ap_cd d (ap_old (L 2))) (ap_cs w d st (ap_old (L 2))) tg hi mi (go + 1)) := hD
          exact W.vret hx hb hr (fun t ht hW => ⟨⟨(va_up (ap_leave L (ap_old (L 2))) 4 ((ap_old (L 2)) :: ap_leave L (ap_old (L 2)) 4), w, ap_cd d (ap_old (L 2)), ap_cs w d st (ap_old (L 2)), tg, hi, mi, go + 1), rfl, hfin9, f_30, n_31, hfm_32, by rw [ht]; exact hP, va_K.moved hW.alike hK, hD⟩, hS.F ht⟩) hS.2.2 dX2_makeRoom_89
      · skip
        replace c_49 : ¬ (0 = 0) := fun h9 => c_49 ((nI_eq (a := 0) (b := 0) (by omega) (by omega)).mpr h9)
        exact absurd c_49 (by omega)
    · skip
      replace c_23 : ((L 1).length) = tg := (nI_eq (a := (L 1).length) (b := tg) (by omega) (by omega)).mp c_23
      refine lv_aload_n hx hb dX2_makeRoom_26 rfl (lv_at hl 0 rfl) ?_
      refine va_get (D := (dC, dI)) (ci := 2) (v := .int (nI tg)) (C := RX2) (T := TX2) (N := 10) hx hb hts hwX2 hown hK hP 0 rfl rfl 6 (by decide) (hts (.fieldLink RX2 30 "ArcCacheModel" "target" "I") (by decide +kernel)) (fun _ h9 => h9) rfl dX2_makeRoom_27 ?_
      refine lv_if_le (tgt := 46) hx hb dX2_makeRoom_30 (by decide) (fun c_30 => ?_) (fun c_30 => ?_)
      · skip
        replace c_30 : tg ≤ 0 := (nI_leI (a := tg) (b := 0) (by omega) (by omega)).mp c_30
        refine lv_iconst (v := nI 0) hx hb dX2_makeRoom_46 (by decide) ?_
        refine lv_istore_n (lv' := [(2, .int (nI 0)), (0, .ref (q 0)), (1, .int x)]) hx hb dX2_makeRoom_47 rfl hl (by decide) rfl (fun ls hl => ?_)
        refine lv_iload_n hx hb dX2_makeRoom_48 rfl (lv_at hl 0 rfl) ?_
        refine lv_if_eq (tgt := 56) hx hb dX2_makeRoom_49 (by decide) (fun c_49 => ?_) (fun c_49 => ?_)
        · skip
          replace c_49 : 0 = 0 := (nI_eq (a := 0) (b := 0) (by omega) (by omega)).mp c_49
          refine lv_iconst (v := nI 2) hx hb dX2_makeRoom_56 (by decide) ?_
          refine lv_istore_n (lv' := [(3, .int (nI 2)), (2, .int (nI 0)), (0, .ref (q 0)), (1, .int x)]) hx hb dX2_makeRoom_57 rfl hl (by decide) rfl (fun ls hl => ?_)
          have hcd9 : ¬ (tg < (L 1).length ∨ ((L 1).length = tg ∧ 0 < tg ∧ ap_wl L x = 4)) := fun h9 => h9.elim c_10 (fun h9 => by first | exact c_23 h9.1 | omega | exact c_39 h9.2.2)
          have emk9 : ap_mk w tg x (L, d, st, go) = ap_og w 2 (L, d, st, go) := ap_mk_2 hcd9
          refine lv_aload_n hx hb dX2_makeRoom_58 rfl (lv_at hl 2 rfl) ?_
          refine va_get (D := (dC, dI)) (ci := 2) (v := .ref (q 2)) (C := RX2) (T := TX2) (N := 10) hx hb hts hwX2 hown hK hP 0 rfl rfl 2 (by decide) (hts (.fieldLink RX2 13 "ArcCacheModel" "many" "[I") (by decide +kernel)) (fun _ h9 => h9) rfl dX2_makeRoom_59 ?_
          refine lv_iload_n hx hb dX2_makeRoom_62 rfl (lv_at hl 0 rfl) ?_
          refine va_iald hx hb hK hP 2 1 rfl rfl (vp_in_nI (show 2 < 5 by omega) (by decide)) dX2_makeRoom_63 ?_
          refine lv_topi (fun x_34 e_x_34 => ?_)
          have e_x_34 : x_34 = n 2 := by rw [e_x_34]; rw [nI_clamp (by omega)]
          subst e_x_34
          refine lv_topi (fun x_35 e_x_35 => ?_)
          have e_x_35 : x_35 = nI ((L 2).length) := by rw [e_x_35]; exact (hfm 2 (by decide) (by decide)).1
          subst e_x_35
          refine lv_if_le (tgt := 89) hx hb dX2_makeRoom_64 (by decide) (fun c_64 => ?_) (fun c_64 => ?_)
          · skip
            replace c_64 : ((L 2).length) ≤ 0 := (nI_leI (a := (L 2).length) (b := 0) (by omega) (by omega)).mp c_64
            have he9 : L 2 = [] := List.length_eq_zero_iff.mp (by omega)
            have hfin9 : (L, w, d, st, tg, hi, mi, go) = ap_tu w tg hi mi (ap_mk w tg x (L, d, st, go)) := by rw [emk9]; unfold ap_og; rw [if_pos he9]; rfl
            exact W.vret hx hb hr (fun t ht hW => ⟨⟨(L, w, d, st, tg, hi, mi, go), rfl, hfin9, f, n, hfm, by rw [ht]; exact hP, va_K.moved hW.alike hK, hD⟩, hS.F ht⟩) hS.2.2 dX2_makeRoom_89
          · skip
            replace c_64 : ¬ (((L 2).length) ≤ 0) := fun h9 => c_64 ((nI_leI (a := (L 2).length) (b := 0) (by omega) (by omega)).mpr h9)
            have hne9 : L 2 ≠ [] := ap_ne (by omega)
            have hx64 : vp_in (ap_old (L 2)) 64 := ap_old_in hI hne9
            have hwo9 : ap_wl L (ap_old (L 2)) = 2 := ap_wl_of hI (ap_old_mem hne9)
            have hfin9 : (va_up (ap_leave L (ap_old (L 2))) 4 ((ap_old (L 2)) :: ap_leave L (ap_old (L 2)) 4), w, ap_cd d (ap_old (L 2)), ap_cs w d st (ap_old (L 2)), tg, hi, mi, go + 1) = ap_tu w tg hi mi (ap_mk w tg x (L, d, st, go)) := by rw [emk9]; unfold ap_og; rw [if_neg hne9, ap_leave_1 hwo9 (by decide)]; rfl
            refine lv_aload_n hx hb dX2_makeRoom_67 rfl (lv_at hl 2 rfl) ?_
            refine lv_iload_n hx hb dX2_makeRoom_68 rfl (lv_at hl 0 rfl) ?_
            have hPc := hP.sub (ws' := (cm q ca C f n w d st tg hi mi go)) [0, 1, 2, 3, 4, 5] rfl
            have hDc := hD.sub (ws' := (cm q ca C f n w d st tg hi mi go)) [0, 1, 2, 3, 4, 5] (by decide) rfl
            have hKc := hK.sub (tys' := (km ca)) [0, 1, 2, 3, 4] rfl
            have hFc := va_free (wc := (cm q ca C f n w d st tg hi mi go)) hD hS hA [0, 1, 2, 3, 4, 5] rfl
            refine va_calli (va_runV (As := [.int (nI 2)]) (rest := []) ⟨hx, hb, hml, hown, hts⟩ (c_M_old l dC dI q ca C f n w d st tg hi mi go L 2 H.size hfm hI hz (by decide) (by decide) hne9) (cwV 1 hts gX2_makeRoom_X2_old rfl rfl rfl (by decide +kernel) ⟨Nat.le_of_ble_eq_true rfl, Nat.le_of_ble_eq_true rfl⟩) ⟨fun a U g mk q => by obtain ⟨q0, q1, qP, qK, qD⟩ := q; exact ⟨q0, q1, qP, va_K.moved (u := U) (U := U.calling g mk a) (Vm.Alike.refl U.vm) qK, qD⟩, va_recv hKc hPc (ci := 2) (q0 := 0) rfl rfl, fun U hU hW => ⟨rfl, by rw [hU], by rw [hU]; exact hPc, va_K.moved hW.alike hKc, hDc.weaken (fun _ _ _ _ => trivial)⟩⟩ rfl rfl hl.1 rfl (lv_room (Nat.le_of_ble_eq_true rfl)) dX2_makeRoom_69 ⟨Nat.le_of_ble_eq_true rfl, Nat.le_of_ble_eq_true rfl⟩) hS (fun q _ h => hFc q h) hFc (fun r u t H1 locs ht hvm hw hB hz1 hk1 hS => ?_)
            obtain ⟨L1, w1, d1, st1, tg1, hi1, mi1, go1⟩ := u
            obtain ⟨f1, n1, hf1, hP1, hK1, hD1⟩ := hB
            rw [ht] at hP1
            obtain ⟨hr9, hw⟩ := hw
            cases hw
            obtain ⟨f_36, ef_36⟩ : ∃ z, z = f1 := ⟨_, rfl⟩
            rw [← ef_36] at hf1 hP1 hD1
            clear ef_36 f1
            obtain ⟨n_37, en_37⟩ : ∃ z, z = n1 := ⟨_, rfl⟩
            rw [← en_37] at hf1 hP1 hD1
            clear en_37 n1
            have hfm_38 := hf1
            obtain ⟨hP, hD⟩ := va_join (wr := []) (w1 := (cm q ca C f_36 n_37 w d st tg hi mi go)) hP hD [0, 1, 2, 3, 4, 5] [] rfl rfl (by decide) (by decide) hk1 hFc hP1 hD1
            generalize H1 = H at hP hS ⊢
            replace hP : va_P (dC, dI) vwCl (cm q ca C f_36 n_37 w d st tg hi mi go) H := hP
            replace hD : va_D A (cm q ca C f_36 n_37 w d st tg hi mi go) := hD
            subst hr9
            refine lv_istore (lv' := [(4, .int (ap_old (L 2))), (3, .int (nI 2)), (2, .int (nI 0)), (0, .ref (q 0)), (1, .int x)]) hx hb dX2_makeRoom_72 hl (by decide) rfl (fun ls hl => ?_)
            refine lv_aload_n hx hb dX2_makeRoom_74 rfl (lv_at hl 3 rfl) ?_
            refine lv_iload hx hb dX2_makeRoom_75 (lv_at hl 0 rfl) ?_
            have hPc := hP.sub (ws' := (cm q ca C f_36 n_37 w d st tg hi mi go)) [0, 1, 2, 3, 4, 5] rfl
            have hDc := hD.sub (ws' := (cm q ca C f_36 n_37 w d st tg hi mi go)) [0, 1, 2, 3, 4, 5] (by decide) rfl
            have hKc := hK.sub (tys' := (km ca)) [0, 1, 2, 3, 4] rfl
            have hFc := va_free (wc := (cm q ca C f_36 n_37 w d st tg hi mi go)) hD hS hA [0, 1, 2, 3, 4, 5] rfl
            refine va_callv (va_runV (As := [.int (ap_old (L 2))]) (rest := []) ⟨hx, hb, hml, hown, hts⟩ (c_M_go l dC dI q ca C f_36 n_37 w d st tg hi mi go L (ap_old (L 2)) H.size hfm_38 hx64) (cwV 1 hts gX2_makeRoom_X2_go rfl rfl rfl (by decide +kernel) ⟨Nat.le_of_ble_eq_true rfl, Nat.le_of_ble_eq_true rfl⟩) ⟨fun a U g mk q => by obtain ⟨q0, q1, qP, qK, qD⟩ := q; exact ⟨q0, q1, qP, va_K.moved (u := U) (U := U.calling g mk a) (Vm.Alike.refl U.vm) qK, qD⟩, va_recv hKc hPc (ci := 2) (q0 := 0) rfl rfl, fun U hU hW => ⟨rfl, by rw [hU], by rw [hU]; exact hPc, va_K.moved hW.alike hKc, hDc.weaken (fun _ _ _ _ => trivial)⟩⟩ rfl rfl hl.1 rfl (lv_room (Nat.le_of_ble_eq_true rfl)) dX2_makeRoom_77 ⟨Nat.le_of_ble_eq_true rfl, Nat.le_of_ble_eq_true rfl⟩) hS (fun q _ h => hFc q h) hFc (fun u t H1 locs ht hvm hw hB hz1 hk1 hS => ?_)
            obtain ⟨L1, w1, d1, st1, tg1, hi1, mi1, go1⟩ := u
            obtain ⟨f1, n1, hf1, hP1, hK1, hD1⟩ := hB
            rw [ht] at hP1
            cases hw
            obtain ⟨f_39, ef_39⟩ : ∃ z, z = f1 := ⟨_, rfl⟩
            rw [← ef_39] at hf1 hP1 hD1
            clear ef_39 f1
            obtain ⟨n_40, en_40⟩ : ∃ z, z = n1 := ⟨_, rfl⟩
            rw [← en_40] at hf1 hP1 hD1
            clear en_40 n1
            have hfm_41 := hf1
            obtain ⟨hP, hD⟩ := va_join (wr := []) (w1 := (cm q ca C f_39 n_40 w (ap_cd d (ap_old (L 2))) (ap_cs w d st (ap_old (L 2))) tg hi mi (go + 1))) hP hD [0, 1, 2, 3, 4, 5] [] rfl rfl (by decide) (by decide) hk1 hFc hP1 hD1
            generalize H1 = H at hP hS ⊢
            replace hP : va_P (dC, dI) vwCl (cm q ca C f_39 n_40 w (ap_cd d (ap_old (L 2))) (ap_cs w d st (ap_old (L 2))) tg hi mi (go + 1)) H := hP
            replace hD : va_D A (cm q ca C f_39 n_40 w (ap_cd d (ap_old (L 2))) (ap_cs w d st (ap_old (L 2))) tg hi mi (go + 1)) := hD
            refine lv_aload_n hx hb dX2_makeRoom_80 rfl (lv_at hl 3 rfl) ?_
            refine lv_iload hx hb dX2_makeRoom_81 (lv_at hl 0 rfl) ?_
            refine lv_iload_n hx hb dX2_makeRoom_83 rfl (lv_at hl 1 rfl) ?_
            refine lv_iconst (v := nI 2) hx hb dX2_makeRoom_84 (by decide) ?_
            refine lv_iadd hx hb dX2_makeRoom_85 ?_
            refine lv_topi (fun x_42 e_x_42 => ?_)
            have e_x_42 : x_42 = nI 4 := by rw [e_x_42]; exact nI_add _ _
            subst e_x_42
            have hPc := hP.sub (ws' := (cm q ca C f_39 n_40 w (ap_cd d (ap_old (L 2))) (ap_cs w d st (ap_old (L 2))) tg hi mi (go + 1))) [0, 1, 2, 3, 4, 5] rfl
            have hDc := hD.sub (ws' := (cm q ca C f_39 n_40 w (ap_cd d (ap_old (L 2))) (ap_cs w d st (ap_old (L 2))) tg hi mi (go + 1))) [0, 1, 2, 3, 4, 5] (by decide) rfl
            have hKc := hK.sub (tys' := (km ca)) [0, 1, 2, 3, 4] rfl
            have hFc := va_free (wc := (cm q ca C f_39 n_40 w (ap_cd d (ap_old (L 2))) (ap_cs w d st (ap_old (L 2))) tg hi mi (go + 1))) hD hS hA [0, 1, 2, 3, 4, 5] rfl
            refine va_callv (va_runV (As := [.int (ap_old (L 2)), .int (nI 4)]) (rest := []) ⟨hx, hb, hml, hown, hts⟩ (c_M_come l dC dI q ca C f_39 n_40 w (ap_cd d (ap_old (L 2))) (ap_cs w d st (ap_old (L 2))) tg hi mi (go + 1) L (ap_old (L 2)) 4 H.size hfm_41 hI hz (by decide) (by decide)) (cwV 2 hts gX2_makeRoom_X2_come rfl rfl rfl (by decide +kernel) ⟨Nat.le_of_ble_eq_true rfl, Nat.le_of_ble_eq_true rfl⟩) ⟨fun a U g mk q => by obtain ⟨q0, q1, qP, qK, qD⟩ := q; exact ⟨q0, q1, qP, va_K.moved (u := U) (U := U.calling g mk a) (Vm.Alike.refl U.vm) qK, qD⟩, va_recv hKc hPc (ci := 2) (q0 := 0) rfl rfl, fun U hU hW => ⟨rfl, by rw [hU], by rw [hU]; exact hPc, va_K.moved hW.alike hKc, hDc.weaken (fun _ _ _ _ => trivial)⟩⟩ rfl rfl hl.1 rfl (lv_room (Nat.le_of_ble_eq_true rfl)) dX2_makeRoom_86 ⟨Nat.le_of_ble_eq_true rfl, Nat.le_of_ble_eq_true rfl⟩) hS (fun q _ h => hFc q h) hFc (fun u t H1 locs ht hvm hw hB hz1 hk1 hS => ?_)
            obtain ⟨L1, w1, d1, st1, tg1, hi1, mi1, go1⟩ := u
            obtain ⟨f1, n1, hf1, hP1, hK1, hD1⟩ := hB
            rw [ht] at hP1
            cases hw
            obtain ⟨f_43, ef_43⟩ : ∃ z, z = f1 := ⟨_, rfl⟩
            rw [← ef_43] at hf1 hP1 hD1
            clear ef_43 f1
            obtain ⟨n_44, en_44⟩ : ∃ z, z = n1 := ⟨_, rfl⟩
            rw [← en_44] at hf1 hP1 hD1
            clear en_44 n1
            have hfm_45 := hf1
            obtain ⟨hP, hD⟩ := va_join (wr := []) (w1 := (cm q ca C f_43 n_44 w (ap_cd d (ap_old (L 2))) (ap_cs w d st (ap_old (L 2))) tg hi mi (go + 1))) hP hD [0, 1, 2, 3, 4, 5] [] rfl rfl (by decide) (by decide) hk1 hFc hP1 hD1
            generalize H1 = H at hP hS ⊢
            replace hP : va_P (dC, dI) vwCl (cm q ca C f_43 n_44 w (ap_cd d (ap_old (L 2))) (ap_cs w d st (ap_old (L 2))) tg hi mi (go + 1)) H := hP
            replace hD : va_D A (cm q ca C f_43 n_44 w (ap_cd d (ap_old (L 2))) (ap_cs w d st (ap_old (L 2))) tg hi mi (go + 1)) := hD
            exact W.vret hx hb hr (fun t ht hW => ⟨⟨(va_up (ap_leave L (ap_old (L 2))) 4 ((ap_old (L 2)) :: ap_leave L (ap_old (L 2)) 4), w, ap_cd d (ap_old (L 2)), ap_cs w d st (ap_old (L 2)), tg, hi, mi, go + 1), rfl, hfin9, f_43, n_44, hfm_45, by rw [ht]; exact hP, va_K.moved hW.alike hK, hD⟩, hS.F ht⟩) hS.2.2 dX2_makeRoom_89
        · skip
          replace c_49 : ¬ (0 = 0) := fun h9 => c_49 ((nI_eq (a := 0) (b := 0) (by omega) (by omega)).mpr h9)
          exact absurd c_49 (by omega)
      · skip
        replace c_30 : ¬ (tg ≤ 0) := fun h9 => c_30 ((nI_leI (a := tg) (b := 0) (by omega) (by omega)).mpr h9)
        refine lv_aload_n hx hb dX2_makeRoom_33 rfl (lv_at hl 0 rfl) ?_
        refine lv_iload_n hx hb dX2_makeRoom_34 rfl (lv_at hl 1 rfl) ?_
        have hPc := hP.sub (ws' := (cm q ca C f n w d st tg hi mi go)) [0, 1, 2, 3, 4, 5] rfl
        have hDc := hD.sub (ws' := (cm q ca C f n w d st tg hi mi go)) [0, 1, 2, 3, 4, 5] (by decide) rfl
        have hKc := hK.sub (tys' := (km ca)) [0, 1, 2, 3, 4] rfl
        have hFc := va_free (wc := (cm q ca C f n w d st tg hi mi go)) hD hS hA [0, 1, 2, 3, 4, 5] rfl
        refine va_calli (va_runV (As := [.int x]) (rest := []) ⟨hx, hb, hml, hown, hts⟩ (c_M_whichList l dC dI q ca C f n w d st tg hi mi go L x H.size hfm hI hz) (cwV 1 hts gX2_makeRoom_X2_whichList rfl rfl rfl (by decide +kernel) ⟨Nat.le_of_ble_eq_true rfl, Nat.le_of_ble_eq_true rfl⟩) ⟨fun a U g mk q => by obtain ⟨q0, q1, qP, qK, qD⟩ := q; exact ⟨q0, q1, qP, va_K.moved (u := U) (U := U.calling g mk a) (Vm.Alike.refl U.vm) qK, qD⟩, va_recv hKc hPc (ci := 2) (q0 := 0) rfl rfl, fun U hU hW => ⟨rfl, by rw [hU], by rw [hU]; exact hPc, va_K.moved hW.alike hKc, hDc.weaken (fun _ _ _ _ => trivial)⟩⟩ rfl rfl hl.1 rfl (lv_room (Nat.le_of_ble_eq_true rfl)) dX2_makeRoom_35 ⟨Nat.le_of_ble_eq_true rfl, Nat.le_of_ble_eq_true rfl⟩) hS (fun q _ h => hFc q h) hFc (fun r u t H1 locs ht hvm hw hB hz1 hk1 hS => ?_)
        obtain ⟨L1, w1, d1, st1, tg1, hi1, mi1, go1⟩ := u
        obtain ⟨f1, n1, hf1, hP1, hK1, hD1⟩ := hB
        rw [ht] at hP1
        obtain ⟨hr9, hw⟩ := hw
        cases hw
        obtain ⟨f_46, ef_46⟩ : ∃ z, z = f1 := ⟨_, rfl⟩
        rw [← ef_46] at hf1 hP1 hD1
        clear ef_46 f1
        obtain ⟨n_47, en_47⟩ : ∃ z, z = n1 := ⟨_, rfl⟩
        rw [← en_47] at hf1 hP1 hD1
        clear en_47 n1
        have hfm_48 := hf1
        obtain ⟨hP, hD⟩ := va_join (wr := []) (w1 := (cm q ca C f_46 n_47 w d st tg hi mi go)) hP hD [0, 1, 2, 3, 4, 5] [] rfl rfl (by decide) (by decide) hk1 hFc hP1 hD1
        generalize H1 = H at hP hS ⊢
        replace hP : va_P (dC, dI) vwCl (cm q ca C f_46 n_47 w d st tg hi mi go) H := hP
        replace hD : va_D A (cm q ca C f_46 n_47 w d st tg hi mi go) := hD
        subst hr9
        refine lv_iconst (v := nI 4) hx hb dX2_makeRoom_38 (by decide) ?_
        refine lv_icmp_ne (tgt := 46) hx hb dX2_makeRoom_39 (by decide) (fun c_39 => ?_) (fun c_39 => ?_)
        · skip
          replace c_39 : ¬ ((ap_wl L x) = 4) := fun h9 => c_39 ((nI_eq (a := ap_wl L x) (b := 4) (by omega) (by omega)).mpr h9)
          refine lv_iconst (v := nI 0) hx hb dX2_makeRoom_46 (by decide) ?_
          refine lv_istore_n (lv' := [(2, .int (nI 0)), (0, .ref (q 0)), (1, .int x)]) hx hb dX2_makeRoom_47 rfl hl (by decide) rfl (fun ls hl => ?_)
          refine lv_iload_n hx hb dX2_makeRoom_48 rfl (lv_at hl 0 rfl) ?_
          refine lv_if_eq (tgt := 56) hx hb dX2_makeRoom_49 (by decide) (fun c_49 => ?_) (fun c_49 => ?_)
          · skip
            replace c_49 : 0 = 0 := (nI_eq (a := 0) (b := 0) (by omega) (by omega)).mp c_49
            refine lv_iconst (v := nI 2) hx hb dX2_makeRoom_56 (by decide) ?_
            refine lv_istore_n (lv' := [(3, .int (nI 2)), (2, .int (nI 0)), (0, .ref (q 0)), (1, .int x)]) hx hb dX2_makeRoom_57 rfl hl (by decide) rfl (fun ls hl => ?_)
            have hcd9 : ¬ (tg < (L 1).length ∨ ((L 1).length = tg ∧ 0 < tg ∧ ap_wl L x = 4)) := fun h9 => h9.elim c_10 (fun h9 => by first | exact c_23 h9.1 | omega | exact c_39 h9.2.2)
            have emk9 : ap_mk w tg x (L, d, st, go) = ap_og w 2 (L, d, st, go) := ap_mk_2 hcd9
            refine lv_aload_n hx hb dX2_makeRoom_58 rfl (lv_at hl 2 rfl) ?_
            refine va_get (D := (dC, dI)) (ci := 2) (v := .ref (q 2)) (C := RX2) (T := TX2) (N := 10) hx hb hts hwX2 hown hK hP 0 rfl rfl 2 (by decide) (hts (.fieldLink RX2 13 "ArcCacheModel" "many" "[I") (by decide +kernel)) (fun _ h9 => h9) rfl dX2_makeRoom_59 ?_
            refine lv_iload_n hx hb dX2_makeRoom_62 rfl (lv_at hl 0 rfl) ?_
            refine va_iald hx hb hK hP 2 1 rfl rfl (vp_in_nI (show 2 < 5 by omega) (by decide)) dX2_makeRoom_63 ?_
            refine lv_topi (fun x_50 e_x_50 => ?_)
            have e_x_50 : x_50 = n_47 2 := by rw [e_x_50]; rw [nI_clamp (by omega)]
            subst e_x_50
            refine lv_topi (fun x_51 e_x_51 => ?_)
            have e_x_51 : x_51 = nI ((L 2).length) := by rw [e_x_51]; exact (hfm_48 2 (by decide) (by decide)).1
            subst e_x_51
            refine lv_if_le (tgt := 89) hx hb dX2_makeRoom_64 (by decide) (fun c_64 => ?_) (fun c_64 => ?_)
            · skip
              replace c_64 : ((L 2).length) ≤ 0 := (nI_leI (a := (L 2).length) (b := 0) (by omega) (by omega)).mp c_64
              have he9 : L 2 = [] := List.length_eq_zero_iff.mp (by omega)
              have hfin9 : (L, w, d, st, tg, hi, mi, go) = ap_tu w tg hi mi (ap_mk w tg x (L, d, st, go)) := by rw [emk9]; unfold ap_og; rw [if_pos he9]; rfl
              exact W.vret hx hb hr (fun t ht hW => ⟨⟨(L, w, d, st, tg, hi, mi, go), rfl, hfin9, f_46, n_47, hfm_48, by rw [ht]; exact hP, va_K.moved hW.alike hK, hD⟩, hS.F ht⟩) hS.2.2 dX2_makeRoom_89
            · skip
              replace c_64 : ¬ (((L 2).length) ≤ 0) := fun h9 => c_64 ((nI_leI (a := (L 2).length) (b := 0) (by omega) (by omega)).mpr h9)
              have hne9 : L 2 ≠ [] := ap_ne (by omega)
              have hx64 : vp_in (ap_old (L 2)) 64 := ap_old_in hI hne9
              have hwo9 : ap_wl L (ap_old (L 2)) = 2 := ap_wl_of hI (ap_old_mem hne9)
              have hfin9 : (va_up (ap_leave L (ap_old (L 2))) 4 ((ap_old (L 2)) :: ap_leave L (ap_old (L 2)) 4), w, ap_cd d (ap_old (L 2)), ap_cs w d st (ap_old (L 2)), tg, hi, mi, go + 1) = ap_tu w tg hi mi (ap_mk w tg x (L, d, st, go)) := by rw [emk9]; unfold ap_og; rw [if_neg hne9, ap_leave_1 hwo9 (by decide)]; rfl
              refine lv_aload_n hx hb dX2_makeRoom_67 rfl (lv_at hl 2 rfl) ?_
              refine lv_iload_n hx hb dX2_makeRoom_68 rfl (lv_at hl 0 rfl) ?_
              have hPc := hP.sub (ws' := (cm q ca C f_46 n_47 w d st tg hi mi go)) [0, 1, 2, 3, 4, 5] rfl
              have hDc := hD.sub (ws' := (cm q ca C f_46 n_47 w d st tg hi mi go)) [0, 1, 2, 3, 4, 5] (by decide) rfl
              have hKc := hK.sub (tys' := (km ca)) [0, 1, 2, 3, 4] rfl
              have hFc := va_free (wc := (cm q ca C f_46 n_47 w d st tg hi mi go)) hD hS hA [0, 1, 2, 3, 4, 5] rfl
              refine va_calli (va_runV (As := [.int (nI 2)]) (rest := []) ⟨hx, hb, hml, hown, hts⟩ (c_M_old l dC dI q ca C f_46 n_47 w d st tg hi mi go L 2 H.size hfm_48 hI hz (by decide) (by decide) hne9) (cwV 1 hts gX2_makeRoom_X2_old rfl rfl rfl (by decide +kernel) ⟨Nat.le_of_ble_eq_true rfl, Nat.le_of_ble_eq_true rfl⟩) ⟨fun a U g mk q => by obtain ⟨q0, q1, qP, qK, qD⟩ := q; exact ⟨q0, q1, qP, va_K.moved (u := U) (U := U.calling g mk a) (Vm.Alike.refl U.vm) qK, qD⟩, va_recv hKc hPc (ci := 2) (q0 := 0) rfl rfl, fun U hU hW => ⟨rfl, by rw [hU], by rw [hU]; exact hPc, va_K.moved hW.alike hKc, hDc.weaken (fun _ _ _ _ => trivial)⟩⟩ rfl rfl hl.1 rfl (lv_room (Nat.le_of_ble_eq_true rfl)) dX2_makeRoom_69 ⟨Nat.le_of_ble_eq_true rfl, Nat.le_of_ble_eq_true rfl⟩) hS (fun q _ h => hFc q h) hFc (fun r u t H1 locs ht hvm hw hB hz1 hk1 hS => ?_)
              obtain ⟨L1, w1, d1, st1, tg1, hi1, mi1, go1⟩ := u
              obtain ⟨f1, n1, hf1, hP1, hK1, hD1⟩ := hB
              rw [ht] at hP1
              obtain ⟨hr9, hw⟩ := hw
              cases hw
              obtain ⟨f_52, ef_52⟩ : ∃ z, z = f1 := ⟨_, rfl⟩
              rw [← ef_52] at hf1 hP1 hD1
              clear ef_52 f1
              obtain ⟨n_53, en_53⟩ : ∃ z, z = n1 := ⟨_, rfl⟩
              rw [← en_53] at hf1 hP1 hD1
              clear en_53 n1
              have hfm_54 := hf1
              obtain ⟨hP, hD⟩ := va_join (wr := []) (w1 := (cm q ca C f_52 n_53 w d st tg hi mi go)) hP hD [0, 1, 2, 3, 4, 5] [] rfl rfl (by decide) (by decide) hk1 hFc hP1 hD1
              generalize H1 = H at hP hS ⊢
              replace hP : va_P (dC, dI) vwCl (cm q ca C f_52 n_53 w d st tg hi mi go) H := hP
              replace hD : va_D A (cm q ca C f_52 n_53 w d st tg hi mi go) := hD
              subst hr9
              refine lv_istore (lv' := [(4, .int (ap_old (L 2))), (3, .int (nI 2)), (2, .int (nI 0)), (0, .ref (q 0)), (1, .int x)]) hx hb dX2_makeRoom_72 hl (by decide) rfl (fun ls hl => ?_)
              refine lv_aload_n hx hb dX2_makeRoom_74 rfl (lv_at hl 3 rfl) ?_
              refine lv_iload hx hb dX2_makeRoom_75 (lv_at hl 0 rfl) ?_
              have hPc := hP.sub (ws' := (cm q ca C f_52 n_53 w d st tg hi mi go)) [0, 1, 2, 3, 4, 5] rfl
              have hDc := hD.sub (ws' := (cm q ca C f_52 n_53 w d st tg hi mi go)) [0, 1, 2, 3, 4, 5] (by decide) rfl
              have hKc := hK.sub (tys' := (km ca)) [0, 1, 2, 3, 4] rfl
              have hFc := va_free (wc := (cm q ca C f_52 n_53 w d st tg hi mi go)) hD hS hA [0, 1, 2, 3, 4, 5] rfl
              refine va_callv (va_runV (As := [.int (ap_old (L 2))]) (rest := []) ⟨hx, hb, hml, hown, hts⟩ (c_M_go l dC dI q ca C f_52 n_53 w d st tg hi mi go L (ap_old (L 2)) H.size hfm_54 hx64) (cwV 1 hts gX2_makeRoom_X2_go rfl rfl rfl (by decide +kernel) ⟨Nat.le_of_ble_eq_true rfl, Nat.le_of_ble_eq_true rfl⟩) ⟨fun a U g mk q => by obtain ⟨q0, q1, qP, qK, qD⟩ := q; exact ⟨q0, q1, qP, va_K.moved (u := U) (U := U.calling g mk a) (Vm.Alike.refl U.vm) qK, qD⟩, va_recv hKc hPc (ci := 2) (q0 := 0) rfl rfl, fun U hU hW => ⟨rfl, by rw [hU], by rw [hU]; exact hPc, va_K.moved hW.alike hKc, hDc.weaken (fun _ _ _ _ => trivial)⟩⟩ rfl rfl hl.1 rfl (lv_room (Nat.le_of_ble_eq_true rfl)) dX2_makeRoom_77 ⟨Nat.le_of_ble_eq_true rfl, Nat.le_of_ble_eq_true rfl⟩) hS (fun q _ h => hFc q h) hFc (fun u t H1 locs ht hvm hw hB hz1 hk1 hS => ?_)
              obtain ⟨L1, w1, d1, st1, tg1, hi1, mi1, go1⟩ := u
              obtain ⟨f1, n1, hf1, hP1, hK1, hD1⟩ := hB
              rw [ht] at hP1
              cases hw
              obtain ⟨f_55, ef_55⟩ : ∃ z, z = f1 := ⟨_, rfl⟩
              rw [← ef_55] at hf1 hP1 hD1
              clear ef_55 f1
              obtain ⟨n_56, en_56⟩ : ∃ z, z = n1 := ⟨_, rfl⟩
              rw [← en_56] at hf1 hP1 hD1
              clear en_56 n1
              have hfm_57 := hf1
              obtain ⟨hP, hD⟩ := va_join (wr := []) (w1 := (cm q ca C f_55 n_56 w (ap_cd d (ap_old (L 2))) (ap_cs w d st (ap_old (L 2))) tg hi mi (go + 1))) hP hD [0, 1, 2, 3, 4, 5] [] rfl rfl (by decide) (by decide) hk1 hFc hP1 hD1
              generalize H1 = H at hP hS ⊢
              replace hP : va_P (dC, dI) vwCl (cm q ca C f_55 n_56 w (ap_cd d (ap_old (L 2))) (ap_cs w d st (ap_old (L 2))) tg hi mi (go + 1)) H := hP
              replace hD : va_D A (cm q ca C f_55 n_56 w (ap_cd d (ap_old (L 2))) (ap_cs w d st (ap_old (L 2))) tg hi mi (go + 1)) := hD
              refine lv_aload_n hx hb dX2_makeRoom_80 rfl (lv_at hl 3 rfl) ?_
              refine lv_iload hx hb dX2_makeRoom_81 (lv_at hl 0 rfl) ?_
              refine lv_iload_n hx hb dX2_makeRoom_83 rfl (lv_at hl 1 rfl) ?_
              refine lv_iconst (v := nI 2) hx hb dX2_makeRoom_84 (by decide) ?_
              refine lv_iadd hx hb dX2_makeRoom_85 ?_
              refine lv_topi (fun x_58 e_x_58 => ?_)
              have e_x_58 : x_58 = nI 4 := by rw [e_x_58]; exact nI_add _ _
              subst e_x_58
              have hPc := hP.sub (ws' := (cm q ca C f_55 n_56 w (ap_cd d (ap_old (L 2))) (ap_cs w d st (ap_old (L 2))) tg hi mi (go + 1))) [0, 1, 2, 3, 4, 5] rfl
              have hDc := hD.sub (ws' := (cm q ca C f_55 n_56 w (ap_cd d (ap_old (L 2))) (ap_cs w d st (ap_old (L 2))) tg hi mi (go + 1))) [0, 1, 2, 3, 4, 5] (by decide) rfl
              have hKc := hK.sub (tys' := (km ca)) [0, 1, 2, 3, 4] rfl
              have hFc := va_free (wc := (cm q ca C f_55 n_56 w (ap_cd d (ap_old (L 2))) (ap_cs w d st (ap_old (L 2))) tg hi mi (go + 1))) hD hS hA [0, 1, 2, 3, 4, 5] rfl
              refine va_callv (va_runV (As := [.int (ap_old (L 2)), .int (nI 4)]) (rest := []) ⟨hx, hb, hml, hown, hts⟩ (c_M_come l dC dI q ca C f_55 n_56 w (ap_cd d (ap_old (L 2))) (ap_cs w d st (ap_old (L 2))) tg hi mi (go + 1) L (ap_old (L 2)) 4 H.size hfm_57 hI hz (by decide) (by decide)) (cwV 2 hts gX2_makeRoom_X2_come rfl rfl rfl (by decide +kernel) ⟨Nat.le_of_ble_eq_true rfl, Nat.le_of_ble_eq_true rfl⟩) ⟨fun a U g mk q => by obtain ⟨q0, q1, qP, qK, qD⟩ := q; exact ⟨q0, q1, qP, va_K.moved (u := U) (U := U.calling g mk a) (Vm.Alike.refl U.vm) qK, qD⟩, va_recv hKc hPc (ci := 2) (q0 := 0) rfl rfl, fun U hU hW => ⟨rfl, by rw [hU], by rw [hU]; exact hPc, va_K.moved hW.alike hKc, hDc.weaken (fun _ _ _ _ => trivial)⟩⟩ rfl rfl hl.1 rfl (lv_room (Nat.le_of_ble_eq_true rfl)) dX2_makeRoom_86 ⟨Nat.le_of_ble_eq_true rfl, Nat.le_of_ble_eq_true rfl⟩) hS (fun q _ h => hFc q h) hFc (fun u t H1 locs ht hvm hw hB hz1 hk1 hS => ?_)
              obtain ⟨L1, w1, d1, st1, tg1, hi1, mi1, go1⟩ := u
              obtain ⟨f1, n1, hf1, hP1, hK1, hD1⟩ := hB
              rw [ht] at hP1
              cases hw
              obtain ⟨f_59, ef_59⟩ : ∃ z, z = f1 := ⟨_, rfl⟩
              rw [← ef_59] at hf1 hP1 hD1
              clear ef_59 f1
              obtain ⟨n_60, en_60⟩ : ∃ z, z = n1 := ⟨_, rfl⟩
              rw [← en_60] at hf1 hP1 hD1
              clear en_60 n1
              have hfm_61 := hf1
              obtain ⟨hP, hD⟩ := va_join (wr := []) (w1 := (cm q ca C f_59 n_60 w (ap_cd d (ap_old (L 2))) (ap_cs w d st (ap_old (L 2))) tg hi mi (go + 1))) hP hD [0, 1, 2, 3, 4, 5] [] rfl rfl (by decide) (by decide) hk1 hFc hP1 hD1
              generalize H1 = H at hP hS ⊢
              replace hP : va_P (dC, dI) vwCl (cm q ca C f_59 n_60 w (ap_cd d (ap_old (L 2))) (ap_cs w d st (ap_old (L 2))) tg hi mi (go + 1)) H := hP
              replace hD : va_D A (cm q ca C f_59 n_60 w (ap_cd d (ap_old (L 2))) (ap_cs w d st (ap_old (L 2))) tg hi mi (go + 1)) := hD
              exact W.vret hx hb hr (fun t ht hW => ⟨⟨(va_up (ap_leave L (ap_old (L 2))) 4 ((ap_old (L 2)) :: ap_leave L (ap_old (L 2)) 4), w, ap_cd d (ap_old (L 2)), ap_cs w d st (ap_old (L 2)), tg, hi, mi, go + 1), rfl, hfin9, f_59, n_60, hfm_61, by rw [ht]; exact hP, va_K.moved hW.alike hK, hD⟩, hS.F ht⟩) hS.2.2 dX2_makeRoom_89
          · skip
            replace c_49 : ¬ (0 = 0) := fun h9 => c_49 ((nI_eq (a := 0) (b := 0) (by omega) (by omega)).mpr h9)
            exact absurd c_49 (by omega)
        · skip
          replace c_39 : (ap_wl L x) = 4 := (nI_eq (a := ap_wl L x) (b := 4) (by omega) (by omega)).mp c_39
          refine lv_iconst (v := nI 1) hx hb dX2_makeRoom_42 (by decide) ?_
          refine lv_goto (tgt := 47) hx hb dX2_makeRoom_43 (by decide) ?_
          refine lv_istore_n (lv' := [(2, .int (nI 1)), (0, .ref (q 0)), (1, .int x)]) hx hb dX2_makeRoom_47 rfl hl (by decide) rfl (fun ls hl => ?_)
          refine lv_iload_n hx hb dX2_makeRoom_48 rfl (lv_at hl 0 rfl) ?_
          refine lv_if_eq (tgt := 56) hx hb dX2_makeRoom_49 (by decide) (fun c_49 => ?_) (fun c_49 => ?_)
          · skip
            replace c_49 : 1 = 0 := (nI_eq (a := 1) (b := 0) (by omega) (by omega)).mp c_49
            exact absurd c_49 (by omega)
          · skip
            replace c_49 : ¬ (1 = 0) := fun h9 => c_49 ((nI_eq (a := 1) (b := 0) (by omega) (by omega)).mpr h9)
            refine lv_iconst (v := nI 1) hx hb dX2_makeRoom_52 (by decide) ?_
            refine lv_goto (tgt := 57) hx hb dX2_makeRoom_53 (by decide) ?_
            refine lv_istore_n (lv' := [(3, .int (nI 1)), (2, .int (nI 1)), (0, .ref (q 0)), (1, .int x)]) hx hb dX2_makeRoom_57 rfl hl (by decide) rfl (fun ls hl => ?_)
            have hcd9 : tg < (L 1).length ∨ ((L 1).length = tg ∧ 0 < tg ∧ ap_wl L x = 4) := by first | exact Or.inl c_10 | exact Or.inr ⟨c_23, by omega, c_39⟩
            have emk9 : ap_mk w tg x (L, d, st, go) = ap_og w 1 (L, d, st, go) := ap_mk_1 hcd9
            refine lv_aload_n hx hb dX2_makeRoom_58 rfl (lv_at hl 2 rfl) ?_
            refine va_get (D := (dC, dI)) (ci := 2) (v := .ref (q 2)) (C := RX2) (T := TX2) (N := 10) hx hb hts hwX2 hown hK hP 0 rfl rfl 2 (by decide) (hts (.fieldLink RX2 13 "ArcCacheModel" "many" "[I") (by decide +kernel)) (fun _ h9 => h9) rfl dX2_makeRoom_59 ?_
            refine lv_iload_n hx hb dX2_makeRoom_62 rfl (lv_at hl 0 rfl) ?_
            refine va_iald hx hb hK hP 2 1 rfl rfl (vp_in_nI (show 1 < 5 by omega) (by decide)) dX2_makeRoom_63 ?_
            refine lv_topi (fun x_63 e_x_63 => ?_)
            have e_x_63 : x_63 = n_47 1 := by rw [e_x_63]; rw [nI_clamp (by omega)]
            subst e_x_63
            refine lv_topi (fun x_64 e_x_64 => ?_)
            have e_x_64 : x_64 = nI ((L 1).length) := by rw [e_x_64]; exact (hfm_48 1 (by decide) (by decide)).1
            subst e_x_64
            refine lv_if_le (tgt := 89) hx hb dX2_makeRoom_64 (by decide) (fun c_64 => ?_) (fun c_64 => ?_)
            · skip
              replace c_64 : ((L 1).length) ≤ 0 := (nI_leI (a := (L 1).length) (b := 0) (by omega) (by omega)).mp c_64
              exact absurd c_64 (by omega)
            · skip
              replace c_64 : ¬ (((L 1).length) ≤ 0) := fun h9 => c_64 ((nI_leI (a := (L 1).length) (b := 0) (by omega) (by omega)).mpr h9)
              have hne9 : L 1 ≠ [] := ap_ne (by omega)
              have hx64 : vp_in (ap_old (L 1)) 64 := ap_old_in hI hne9
              have hwo9 : ap_wl L (ap_old (L 1)) = 1 := ap_wl_of hI (ap_old_mem hne9)
              have hfin9 : (va_up (ap_leave L (ap_old (L 1))) 3 ((ap_old (L 1)) :: ap_leave L (ap_old (L 1)) 3), w, ap_cd d (ap_old (L 1)), ap_cs w d st (ap_old (L 1)), tg, hi, mi, go + 1) = ap_tu w tg hi mi (ap_mk w tg x (L, d, st, go)) := by rw [emk9]; unfold ap_og; rw [if_neg hne9, ap_leave_1 hwo9 (by decide)]; rfl
              refine lv_aload_n hx hb dX2_makeRoom_67 rfl (lv_at hl 2 rfl) ?_
              refine lv_iload_n hx hb dX2_makeRoom_68 rfl (lv_at hl 0 rfl) ?_
              have hPc := hP.sub (ws' := (cm q ca C f_46 n_47 w d st tg hi mi go)) [0, 1, 2, 3, 4, 5] rfl
              have hDc := hD.sub (ws' := (cm q ca C f_46 n_47 w d st tg hi mi go)) [0, 1, 2, 3, 4, 5] (by decide) rfl
              have hKc := hK.sub (tys' := (km ca)) [0, 1, 2, 3, 4] rfl
              have hFc := va_free (wc := (cm q ca C f_46 n_47 w d st tg hi mi go)) hD hS hA [0, 1, 2, 3, 4, 5] rfl
              refine va_calli (va_runV (As := [.int (nI 1)]) (rest := []) ⟨hx, hb, hml, hown, hts⟩ (c_M_old l dC dI q ca C f_46 n_47 w d st tg hi mi go L 1 H.size hfm_48 hI hz (by decide) (by decide) hne9) (cwV 1 hts gX2_makeRoom_X2_old rfl rfl rfl (by decide +kernel) ⟨Nat.le_of_ble_eq_true rfl, Nat.le_of_ble_eq_true rfl⟩) ⟨fun a U g mk q => by obtain ⟨q0, q1, qP, qK, qD⟩ := q; exact ⟨q0, q1, qP, va_K.moved (u := U) (U := U.calling g mk a) (Vm.Alike.refl U.vm) qK, qD⟩, va_recv hKc hPc (ci := 2) (q0 := 0) rfl rfl, fun U hU hW => ⟨rfl, by rw [hU], by rw [hU]; exact hPc, va_K.moved hW.alike hKc, hDc.weaken (fun _ _ _ _ => trivial)⟩⟩ rfl rfl hl.1 rfl (lv_room (Nat.le_of_ble_eq_true rfl)) dX2_makeRoom_69 ⟨Nat.le_of_ble_eq_true rfl, Nat.le_of_ble_eq_true rfl⟩) hS (fun q _ h => hFc q h) hFc (fun r u t H1 locs ht hvm hw hB hz1 hk1 hS => ?_)
              obtain ⟨L1, w1, d1, st1, tg1, hi1, mi1, go1⟩ := u
              obtain ⟨f1, n1, hf1, hP1, hK1, hD1⟩ := hB
              rw [ht] at hP1
              obtain ⟨hr9, hw⟩ := hw
              cases hw
              obtain ⟨f_65, ef_65⟩ : ∃ z, z = f1 := ⟨_, rfl⟩
              rw [← ef_65] at hf1 hP1 hD1
              clear ef_65 f1
              obtain ⟨n_66, en_66⟩ : ∃ z, z = n1 := ⟨_, rfl⟩
              rw [← en_66] at hf1 hP1 hD1
              clear en_66 n1
              have hfm_67 := hf1
              obtain ⟨hP, hD⟩ := va_join (wr := []) (w1 := (cm q ca C f_65 n_66 w d st tg hi mi go)) hP hD [0, 1, 2, 3, 4, 5] [] rfl rfl (by decide) (by decide) hk1 hFc hP1 hD1
              generalize H1 = H at hP hS ⊢
              replace hP : va_P (dC, dI) vwCl (cm q ca C f_65 n_66 w d st tg hi mi go) H := hP
              replace hD : va_D A (cm q ca C f_65 n_66 w d st tg hi mi go) := hD
              subst hr9
              refine lv_istore (lv' := [(4, .int (ap_old (L 1))), (3, .int (nI 1)), (2, .int (nI 1)), (0, .ref (q 0)), (1, .int x)]) hx hb dX2_makeRoom_72 hl (by decide) rfl (fun ls hl => ?_)
              refine lv_aload_n hx hb dX2_makeRoom_74 rfl (lv_at hl 3 rfl) ?_
              refine lv_iload hx hb dX2_makeRoom_75 (lv_at hl 0 rfl) ?_
              have hPc := hP.sub (ws' := (cm q ca C f_65 n_66 w d st tg hi mi go)) [0, 1, 2, 3, 4, 5] rfl
              have hDc := hD.sub (ws' := (cm q ca C f_65 n_66 w d st tg hi mi go)) [0, 1, 2, 3, 4, 5] (by decide) rfl
              have hKc := hK.sub (tys' := (km ca)) [0, 1, 2, 3, 4] rfl
              have hFc := va_free (wc := (cm q ca C f_65 n_66 w d st tg hi mi go)) hD hS hA [0, 1, 2, 3, 4, 5] rfl
              refine va_callv (va_runV (As := [.int (ap_old (L 1))]) (rest := []) ⟨hx, hb, hml, hown, hts⟩ (c_M_go l dC dI q ca C f_65 n_66 w d st tg hi mi go L (ap_old (L 1)) H.size hfm_67 hx64) (cwV 1 hts gX2_makeRoom_X2_go rfl rfl rfl (by decide +kernel) ⟨Nat.le_of_ble_eq_true rfl, Nat.le_of_ble_eq_true rfl⟩) ⟨fun a U g mk q => by obtain ⟨q0, q1, qP, qK, qD⟩ := q; exact ⟨q0, q1, qP, va_K.moved (u := U) (U := U.calling g mk a) (Vm.Alike.refl U.vm) qK, qD⟩, va_recv hKc hPc (ci := 2) (q0 := 0) rfl rfl, fun U hU hW => ⟨rfl, by rw [hU], by rw [hU]; exact hPc, va_K.moved hW.alike hKc, hDc.weaken (fun _ _ _ _ => trivial)⟩⟩ rfl rfl hl.1 rfl (lv_room (Nat.le_of_ble_eq_true rfl)) dX2_makeRoom_77 ⟨Nat.le_of_ble_eq_true rfl, Nat.le_of_ble_eq_true rfl⟩) hS (fun q _ h => hFc q h) hFc (fun u t H1 locs ht hvm hw hB hz1 hk1 hS => ?_)
              obtain ⟨L1, w1, d1, st1, tg1, hi1, mi1, go1⟩ := u
              obtain ⟨f1, n1, hf1, hP1, hK1, hD1⟩ := hB
              rw [ht] at hP1
              cases hw
              obtain ⟨f_68, ef_68⟩ : ∃ z, z = f1 := ⟨_, rfl⟩
              rw [← ef_68] at hf1 hP1 hD1
              clear ef_68 f1
              obtain ⟨n_69, en_69⟩ : ∃ z, z = n1 := ⟨_, rfl⟩
              rw [← en_69] at hf1 hP1 hD1
              clear en_69 n1
              have hfm_70 := hf1
              obtain ⟨hP, hD⟩ := va_join (wr := []) (w1 := (cm q ca C f_68 n_69 w (ap_cd d (ap_old (L 1))) (ap_cs w d st (ap_old (L 1))) tg hi mi (go + 1))) hP hD [0, 1, 2, 3, 4, 5] [] rfl rfl (by decide) (by decide) hk1 hFc hP1 hD1
              generalize H1 = H at hP hS ⊢
              replace hP : va_P (dC, dI) vwCl (cm q ca C f_68 n_69 w (ap_cd d (ap_old (L 1))) (ap_cs w d st (ap_old (L 1))) tg hi mi (go + 1)) H := hP
              replace hD : va_D A (cm q ca C f_68 n_69 w (ap_cd d (ap_old (L 1))) (ap_cs w d st (ap_old (L 1))) tg hi mi (go + 1)) := hD
              refine lv_aload_n hx hb dX2_makeRoom_80 rfl (lv_at hl 3 rfl) ?_
              refine lv_iload hx hb dX2_makeRoom_81 (lv_at hl 0 rfl) ?_
              refine lv_iload_n hx hb dX2_makeRoom_83 rfl (lv_at hl 1 rfl) ?_
              refine lv_iconst (v := nI 2) hx hb dX2_makeRoom_84 (by decide) ?_
              refine lv_iadd hx hb dX2_makeRoom_85 ?_
              refine lv_topi (fun x_71 e_x_71 => ?_)
              have e_x_71 : x_71 = nI 3 := by rw [e_x_71]; exact nI_add _ _
              subst e_x_71
              have hPc := hP.sub (ws' := (cm q ca C f_68 n_69 w (ap_cd d (ap_old (L 1))) (ap_cs w d st (ap_old (L 1))) tg hi mi (go + 1))) [0, 1, 2, 3, 4, 5] rfl
              have hDc := hD.sub (ws' := (cm q ca C f_68 n_69 w (ap_cd d (ap_old (L 1))) (ap_cs w d st (ap_old (L 1))) tg hi mi (go + 1))) [0, 1, 2, 3, 4, 5] (by decide) rfl
              have hKc := hK.sub (tys' := (km ca)) [0, 1, 2, 3, 4] rfl
              have hFc := va_free (wc := (cm q ca C f_68 n_69 w (ap_cd d (ap_old (L 1))) (ap_cs w d st (ap_old (L 1))) tg hi mi (go + 1))) hD hS hA [0, 1, 2, 3, 4, 5] rfl
              refine va_callv (va_runV (As := [.int (ap_old (L 1)), .int (nI 3)]) (rest := []) ⟨hx, hb, hml, hown, hts⟩ (c_M_come l dC dI q ca C f_68 n_69 w (ap_cd d (ap_old (L 1))) (ap_cs w d st (ap_old (L 1))) tg hi mi (go + 1) L (ap_old (L 1)) 3 H.size hfm_70 hI hz (by decide) (by decide)) (cwV 2 hts gX2_makeRoom_X2_come rfl rfl rfl (by decide +kernel) ⟨Nat.le_of_ble_eq_true rfl, Nat.le_of_ble_eq_true rfl⟩) ⟨fun a U g mk q => by obtain ⟨q0, q1, qP, qK, qD⟩ := q; exact ⟨q0, q1, qP, va_K.moved (u := U) (U := U.calling g mk a) (Vm.Alike.refl U.vm) qK, qD⟩, va_recv hKc hPc (ci := 2) (q0 := 0) rfl rfl, fun U hU hW => ⟨rfl, by rw [hU], by rw [hU]; exact hPc, va_K.moved hW.alike hKc, hDc.weaken (fun _ _ _ _ => trivial)⟩⟩ rfl rfl hl.1 rfl (lv_room (Nat.le_of_ble_eq_true rfl)) dX2_makeRoom_86 ⟨Nat.le_of_ble_eq_true rfl, Nat.le_of_ble_eq_true rfl⟩) hS (fun q _ h => hFc q h) hFc (fun u t H1 locs ht hvm hw hB hz1 hk1 hS => ?_)
              obtain ⟨L1, w1, d1, st1, tg1, hi1, mi1, go1⟩ := u
              obtain ⟨f1, n1, hf1, hP1, hK1, hD1⟩ := hB
              rw [ht] at hP1
              cases hw
              obtain ⟨f_72, ef_72⟩ : ∃ z, z = f1 := ⟨_, rfl⟩
              rw [← ef_72] at hf1 hP1 hD1
              clear ef_72 f1
              obtain ⟨n_73, en_73⟩ : ∃ z, z = n1 := ⟨_, rfl⟩
              rw [← en_73] at hf1 hP1 hD1
              clear en_73 n1
              have hfm_74 := hf1
              obtain ⟨hP, hD⟩ := va_join (wr := []) (w1 := (cm q ca C f_72 n_73 w (ap_cd d (ap_old (L 1))) (ap_cs w d st (ap_old (L 1))) tg hi mi (go + 1))) hP hD [0, 1, 2, 3, 4, 5] [] rfl rfl (by decide) (by decide) hk1 hFc hP1 hD1
              generalize H1 = H at hP hS ⊢
              replace hP : va_P (dC, dI) vwCl (cm q ca C f_72 n_73 w (ap_cd d (ap_old (L 1))) (ap_cs w d st (ap_old (L 1))) tg hi mi (go + 1)) H := hP
              replace hD : va_D A (cm q ca C f_72 n_73 w (ap_cd d (ap_old (L 1))) (ap_cs w d st (ap_old (L 1))) tg hi mi (go + 1)) := hD
              exact W.vret hx hb hr (fun t ht hW => ⟨⟨(va_up (ap_leave L (ap_old (L 1))) 3 ((ap_old (L 1)) :: ap_leave L (ap_old (L 1)) 3), w, ap_cd d (ap_old (L 1)), ap_cs w d st (ap_old (L 1)), tg, hi, mi, go + 1), rfl, hfin9, f_72, n_73, hfm_74, by rw [ht]; exact hP, va_K.moved hW.alike hK, hD⟩, hS.F ht⟩) hS.2.2 dX2_makeRoom_89
set_option maxHeartbeats 4000000 in
set_option maxRecDepth 100000 in
theorem c_M_comeNew (l : Launch) (dC : Nat → ClassId) (dI : Nat → Nat → Nat) (q : Nat → Nat) (ca : Nat → ClassId) (C : Nat) (f n w d st : Nat → Int32) (tg : Nat) (hi mi go : Int32) (L : Nat → List Int32) (x : Int32) (sz : Nat) (hfm : fm_ok f n L) (hok : ap_ok C tg L) (hw0 : ap_wl L x = 0) : Met l yX2_comeNew wsX2_comeNew ({ frames := 4, cells := 0, slots := 0, locals := 94 }) (va_Pc [.ref (q 0), .int x] (fun U => U.heap.size = sz ∧ va_P (dC, dI) vwCl (cm q ca C f n w d st tg hi mi go) U.heap ∧ va_K (dC, dI) vwCl (km ca) U ∧ va_D (fun _ => True) (cm q ca C f n w d st tg hi mi go))) (va_Qv (fun (u : ap_U) => u = (va_up (ap_un w C tg x (L, d, st, go)).1 1 (x :: (ap_un w C tg x (L, d, st, go)).1 1), w, (ap_un w C tg x (L, d, st, go)).2.1, (ap_un w C tg x (L, d, st, go)).2.2.1, tg, hi, mi, (ap_un w C tg x (L, d, st, go)).2.2.2)) (at_M dC dI (va_A (cm q ca C f n w d st tg hi mi go) sz) q ca C) (va_A (cm q ca C f n w d st tg hi mi go) sz)) 0 0 (va_A (cm q ca C f n w d st tg hi mi go) sz) := by
  refine Met.ofW (cc := cX2_comeNew) (maxL := 3) (ret := none) (by decide) rfl ?_
  intro p e s m args below meth c s₁ B hml hv
  obtain ⟨rfl, hsz, hP, hK, hD0⟩ := hv
  have hx := B.exec
  have hb := B.bytes
  have hr := B.returns
  have hts := atoms_spec (ws := wsX2_comeNew) B.pre
  have hown : s.vm.findClass RX2 = some m.cls := findClass_of_methodNamed B.named
  have hlocks := B.notSynchronized
  have hwX2 : ∀ w ∈ u_ws RX2 TX2 10, w ∈ wsX2_comeNew := by decide +kernel
  subst hsz
  have hD := hD0.self (sz := s.heap.size)
  generalize hAe : va_A (cm q ca C f n w d st tg hi mi go) s.heap.size = A at hD ⊢
  have hA : ∀ q : Nat, s.heap.size ≤ q → A q := fun q h => by rw [← hAe]; exact Or.inr h
  have hS0 : ∀ H, s.heap = H → va_S A s.heap H [] := fun H h => by subst h; exact va_S.rf
  have hl := lv_entry ([.ref (q 0), .int x]) (n := 3) (Nat.le_of_ble_eq_true rfl)
  rw [lg_entry_eq]
  generalize (lg_sl ([.ref (q 0), .int x]) ++ List.replicate (3 - (lg_sl ([.ref (q 0), .int x])).length) Slot.unset).toArray = ls at hl ⊢
  have hl : lv_has ls 3 [(0, .ref (q 0)), (1, .int x)] := hl
  generalize hHe : s.heap = H at hP ⊢
  have hS := hS0 H hHe
  obtain ⟨hI, hC1, hC, htg, hs1, hs2, hs3⟩ := id hok
  have hz : ap_tot L ≤ 48 := by omega
  have z1 : (L 1).length ≤ 48 := by unfold ap_tot at hz; omega
  have z2 : (L 2).length ≤ 48 := by unfold ap_tot at hz; omega
  have z3 : (L 3).length ≤ 48 := by unfold ap_tot at hz; omega
  have z4 : (L 4).length ≤ 48 := by unfold ap_tot at hz; omega
  have htot9 : ap_tot L = (L 1).length + (L 2).length + (L 3).length + (L 4).length := rfl
  refine lv_aload_n hx hb dX2_comeNew_0 rfl (lv_at hl 0 rfl) ?_
  refine va_get (D := (dC, dI)) (ci := 2) (v := .ref (q 2)) (C := RX2) (T := TX2) (N := 10) hx hb hts hwX2 hown hK hP 0 rfl rfl 2 (by decide) (hts (.fieldLink RX2 13 "ArcCacheModel" "many" "[I") (by decide +kernel)) (fun _ h9 => h9) rfl dX2_comeNew_1 ?_
  refine lv_iconst (v := nI 1) hx hb dX2_comeNew_4 (by decide) ?_
  refine va_iald hx hb hK hP 2 1 rfl rfl (vp_in_nI (show 1 < 5 by omega) (by decide)) dX2_comeNew_5 ?_
  refine lv_topi (fun x_2 e_x_2 => ?_)
  have e_x_2 : x_2 = n 1 := by rw [e_x_2]; rw [nI_clamp (by omega)]
  subst e_x_2
  refine lv_topi (fun x_3 e_x_3 => ?_)
  have e_x_3 : x_3 = nI ((L 1).length) := by rw [e_x_3]; exact (hfm 1 (by decide) (by decide)).1
  subst e_x_3
  refine lv_aload_n hx hb dX2_comeNew_6 rfl (lv_at hl 0 rfl) ?_
  refine va_get (D := (dC, dI)) (ci := 2) (v := .ref (q 2)) (C := RX2) (T := TX2) (N := 10) hx hb hts hwX2 hown hK hP 0 rfl rfl 2 (by decide) (hts (.fieldLink RX2 13 "ArcCacheModel" "many" "[I") (by decide +kernel)) (fun _ h9 => h9) rfl dX2_comeNew_7 ?_
  refine lv_iconst (v := nI 3) hx hb dX2_comeNew_10 (by decide) ?_
  refine va_iald hx hb hK hP 2 1 rfl rfl (vp_in_nI (show 3 < 5 by omega) (by decide)) dX2_comeNew_11 ?_
  refine lv_topi (fun x_5 e_x_5 => ?_)
  have e_x_5 : x_5 = n 3 := by rw [e_x_5]; rw [nI_clamp (by omega)]
  subst e_x_5
  refine lv_topi (fun x_6 e_x_6 => ?_)
  have e_x_6 : x_6 = nI ((L 3).length) := by rw [e_x_6]; exact (hfm 3 (by decide) (by decide)).1
  subst e_x_6
  refine lv_iadd hx hb dX2_comeNew_12 ?_
  refine lv_topi (fun x_7 e_x_7 => ?_)
  have e_x_7 : x_7 = nI (((L 1).length) + ((L 3).length)) := by rw [e_x_7]; exact nI_add _ _
  subst e_x_7
  refine lv_aload_n hx hb dX2_comeNew_13 rfl (lv_at hl 0 rfl) ?_
  refine va_get (D := (dC, dI)) (ci := 2) (v := .int (nI C)) (C := RX2) (T := TX2) (N := 10) hx hb hts hwX2 hown hK hP 0 rfl rfl 0 (by decide) (hts (.fieldLink RX2 26 "ArcCacheModel" "pages" "I") (by decide +kernel)) (fun _ h9 => h9) rfl dX2_comeNew_14 ?_
  refine lv_icmp_ne (tgt := 71) hx hb dX2_comeNew_17 (by decide) (fun c_17 => ?_) (fun c_17 => ?_)
  · skip
    replace c_17 : ¬ ((((L 1).length) + ((L 3).length)) = C) := fun h9 => c_17 ((nI_eq (a := ((L 1).length) + ((L 3).length)) (b := C) (by omega) (by omega)).mpr h9)
    refine lv_aload_n hx hb dX2_comeNew_71 rfl (lv_at hl 0 rfl) ?_
    refine va_get (D := (dC, dI)) (ci := 2) (v := .ref (q 2)) (C := RX2) (T := TX2) (N := 10) hx hb hts hwX2 hown hK hP 0 rfl rfl 2 (by decide) (hts (.fieldLink RX2 13 "ArcCacheModel" "many" "[I") (by decide +kernel)) (fun _ h9 => h9) rfl dX2_comeNew_72 ?_
    refine lv_iconst (v := nI 1) hx hb dX2_comeNew_75 (by decide) ?_
    refine va_iald hx hb hK hP 2 1 rfl rfl (vp_in_nI (show 1 < 5 by omega) (by decide)) dX2_comeNew_76 ?_
    refine lv_topi (fun x_9 e_x_9 => ?_)
    have e_x_9 : x_9 = n 1 := by rw [e_x_9]; rw [nI_clamp (by omega)]
    subst e_x_9
    refine lv_topi (fun x_10 e_x_10 => ?_)
    have e_x_10 : x_10 = nI ((L 1).length) := by rw [e_x_10]; exact (hfm 1 (by decide) (by decide)).1
    subst e_x_10
    refine lv_aload_n hx hb dX2_comeNew_77 rfl (lv_at hl 0 rfl) ?_
    refine va_get (D := (dC, dI)) (ci := 2) (v := .ref (q 2)) (C := RX2) (T := TX2) (N := 10) hx hb hts hwX2 hown hK hP 0 rfl rfl 2 (by decide) (hts (.fieldLink RX2 13 "ArcCacheModel" "many" "[I") (by decide +kernel)) (fun _ h9 => h9) rfl dX2_comeNew_78 ?_
    refine lv_iconst (v := nI 2) hx hb dX2_comeNew_81 (by decide) ?_
    refine va_iald hx hb hK hP 2 1 rfl rfl (vp_in_nI (show 2 < 5 by omega) (by decide)) dX2_comeNew_82 ?_
    refine lv_topi (fun x_12 e_x_12 => ?_)
    have e_x_12 : x_12 = n 2 := by rw [e_x_12]; rw [nI_clamp (by omega)]
    subst e_x_12
    refine lv_topi (fun x_13 e_x_13 => ?_)
    have e_x_13 : x_13 = nI ((L 2).length) := by rw [e_x_13]; exact (hfm 2 (by decide) (by decide)).1
    subst e_x_13
    refine lv_iadd hx hb dX2_comeNew_83 ?_
    refine lv_topi (fun x_14 e_x_14 => ?_)
    have e_x_14 : x_14 = nI (((L 1).length) + ((L 2).length)) := by rw [e_x_14]; exact nI_add _ _
    subst e_x_14
    refine lv_aload_n hx hb dX2_comeNew_84 rfl (lv_at hl 0 rfl) ?_
    refine va_get (D := (dC, dI)) (ci := 2) (v := .ref (q 2)) (C := RX2) (T := TX2) (N := 10) hx hb hts hwX2 hown hK hP 0 rfl rfl 2 (by decide) (hts (.fieldLink RX2 13 "ArcCacheModel" "many" "[I") (by decide +kernel)) (fun _ h9 => h9) rfl dX2_comeNew_85 ?_
    refine lv_iconst (v := nI 3) hx hb dX2_comeNew_88 (by decide) ?_
    refine va_iald hx hb hK hP 2 1 rfl rfl (vp_in_nI (show 3 < 5 by omega) (by decide)) dX2_comeNew_89 ?_
    refine lv_topi (fun x_16 e_x_16 => ?_)
    have e_x_16 : x_16 = n 3 := by rw [e_x_16]; rw [nI_clamp (by omega)]
    subst e_x_16
    refine lv_topi (fun x_17 e_x_17 => ?_)
    have e_x_17 : x_17 = nI ((L 3).length) := by rw [e_x_17]; exact (hfm 3 (by decide) (by decide)).1
    subst e_x_17
    refine lv_iadd hx hb dX2_comeNew_90 ?_
    refine lv_topi (fun x_18 e_x_18 => ?_)
    have e_x_18 : x_18 = nI ((((L 1).length) + ((L 2).length)) + ((L 3).length)) := by rw [e_x_18]; exact nI_add _ _
    subst e_x_18
    refine lv_aload_n hx hb dX2_comeNew_91 rfl (lv_at hl 0 rfl) ?_
    refine va_get (D := (dC, dI)) (ci := 2) (v := .ref (q 2)) (C := RX2) (T := TX2) (N := 10) hx hb hts hwX2 hown hK hP 0 rfl rfl 2 (by decide) (hts (.fieldLink RX2 13 "ArcCacheModel" "many" "[I") (by decide +kernel)) (fun _ h9 => h9) rfl dX2_comeNew_92 ?_
    refine lv_iconst (v := nI 4) hx hb dX2_comeNew_95 (by decide) ?_
    refine va_iald hx hb hK hP 2 1 rfl rfl (vp_in_nI (show 4 < 5 by omega) (by decide)) dX2_comeNew_96 ?_
    refine lv_topi (fun x_20 e_x_20 => ?_)
    have e_x_20 : x_20 = n 4 := by rw [e_x_20]; rw [nI_clamp (by omega)]
    subst e_x_20
    refine lv_topi (fun x_21 e_x_21 => ?_)
    have e_x_21 : x_21 = nI ((L 4).length) := by rw [e_x_21]; exact (hfm 4 (by decide) (by decide)).1
    subst e_x_21
    refine lv_iadd hx hb dX2_comeNew_97 ?_
    refine lv_topi (fun x_22 e_x_22 => ?_)
    have e_x_22 : x_22 = nI (((((L 1).length) + ((L 2).length)) + ((L 3).length)) + ((L 4).length)) := by rw [e_x_22]; exact nI_add _ _
    subst e_x_22
    refine lv_istore_n (lv' := [(2, .int (nI (((((L 1).length) + ((L 2).length)) + ((L 3).length)) + ((L 4).length)))), (0, .ref (q 0)), (1, .int x)]) hx hb dX2_comeNew_98 rfl hl (by decide) rfl (fun ls hl => ?_)
    refine lv_iload_n hx hb dX2_comeNew_99 rfl (lv_at hl 0 rfl) ?_
    refine lv_aload_n hx hb dX2_comeNew_100 rfl (lv_at hl 1 rfl) ?_
    refine va_get (D := (dC, dI)) (ci := 2) (v := .int (nI C)) (C := RX2) (T := TX2) (N := 10) hx hb hts hwX2 hown hK hP 0 rfl rfl 0 (by decide) (hts (.fieldLink RX2 26 "ArcCacheModel" "pages" "I") (by decide +kernel)) (fun _ h9 => h9) rfl dX2_comeNew_101 ?_
    refine lv_icmp_lt (tgt := 131) hx hb dX2_comeNew_104 (by decide) (fun c_104 => ?_) (fun c_104 => ?_)
    · skip
      replace c_104 : (((((L 1).length) + ((L 2).length)) + ((L 3).length)) + ((L 4).length)) < C := (nI_ltI (a := ((((L 1).length) + ((L 2).length)) + ((L 3).length)) + ((L 4).length)) (b := C) (by omega) (by omega)).mp c_104
      have eun9 : ap_un w C tg x (L, d, st, go) = (L, d, st, go) := ap_un_E (S := (L, d, st, go)) c_17 (by show ¬ C ≤ ap_tot L; omega)
      have hun9 := ap_un_ok (w := w) (d := d) (st := st) (go := go) hok hw0
      have hfin9 : (va_up L 1 (x :: L 1), w, d, st, tg, hi, mi, go) = (va_up (ap_un w C tg x (L, d, st, go)).1 1 (x :: (ap_un w C tg x (L, d, st, go)).1 1), w, (ap_un w C tg x (L, d, st, go)).2.1, (ap_un w C tg x (L, d, st, go)).2.2.1, tg, hi, mi, (ap_un w C tg x (L, d, st, go)).2.2.2) := by rw [eun9]
      rw [eun9] at hun9
      obtain ⟨hui9, huw9, huz9, -, -⟩ := hun9
      try dsimp only at hui9 huw9 huz9
      refine lv_aload_n hx hb dX2_comeNew_131 rfl (lv_at hl 1 rfl) ?_
      refine lv_iload_n hx hb dX2_comeNew_132 rfl (lv_at hl 2 rfl) ?_
      refine lv_iconst (v := nI 1) hx hb dX2_comeNew_133 (by decide) ?_
      have huz8 : ap_tot L ≤ 48 := by omega
      have hPc := hP.sub (ws' := (cm q ca C f n w d st tg hi mi go)) [0, 1, 2, 3, 4, 5] rfl
      have hDc := hD.sub (ws' := (cm q ca C f n w d st tg hi mi go)) [0, 1, 2, 3, 4, 5] (by decide) rfl
      have hKc := hK.sub (tys' := (km ca)) [0, 1, 2, 3, 4] rfl
      have hFc := va_free (wc := (cm q ca C f n w d st tg hi mi go)) hD hS hA [0, 1, 2, 3, 4, 5] rfl
      refine va_callv (va_runV (As := [.int x, .int (nI 1)]) (rest := []) ⟨hx, hb, hml, hown, hts⟩ (c_M_come l dC dI q ca C f n w d st tg hi mi go L x 1 H.size hfm hui9 huz8 (by decide) (by decide)) (cwV 2 hts gX2_comeNew_X2_come rfl rfl rfl (by decide +kernel) ⟨Nat.le_of_ble_eq_true rfl, Nat.le_of_ble_eq_true rfl⟩) ⟨fun a U g mk q => by obtain ⟨q0, q1, qP, qK, qD⟩ := q; exact ⟨q0, q1, qP, va_K.moved (u := U) (U := U.calling g mk a) (Vm.Alike.refl U.vm) qK, qD⟩, va_recv hKc hPc (ci := 2) (q0 := 0) rfl rfl, fun U hU hW => ⟨rfl, by rw [hU], by rw [hU]; exact hPc, va_K.moved hW.alike hKc, hDc.weaken (fun _ _ _ _ => trivial)⟩⟩ rfl rfl hl.1 rfl (lv_room (Nat.le_of_ble_eq_true rfl)) dX2_comeNew_134 ⟨Nat.le_of_ble_eq_true rfl, Nat.le_of_ble_eq_true rfl⟩) hS (fun q _ h => hFc q h) hFc (fun u t H1 locs ht hvm hw hB hz1 hk1 hS => ?_)
      obtain ⟨L1, w1, d1, st1, tg1, hi1, mi1, go1⟩ := u
      obtain ⟨f1, n1, hf1, hP1, hK1, hD1⟩ := hB
      rw [ht] at hP1
      cases hw
      obtain ⟨f_23, ef_23⟩ : ∃ z, z = f1 := ⟨_, rfl⟩
      rw [← ef_23] at hf1 hP1 hD1
      clear ef_23 f1
      obtain ⟨n_24, en_24⟩ : ∃ z, z = n1 := ⟨_, rfl⟩
      rw [← en_24] at hf1 hP1 hD1
      clear en_24 n1
      have hfm_25 := hf1
      obtain ⟨hP, hD⟩ := va_join (wr := []) (w1 := (cm q ca C f_23 n_24 w d st tg hi mi go)) hP hD [0, 1, 2, 3, 4, 5] [] rfl rfl (by decide) (by decide) hk1 hFc hP1 hD1
      generalize H1 = H at hP hS ⊢
      replace hP : va_P (dC, dI) vwCl (cm q ca C f_23 n_24 w d st tg hi mi go) H := hP
      replace hD : va_D A (cm q ca C f_23 n_24 w d st tg hi mi go) := hD
      have hfm_25d : fm_ok f_23 n_24 (va_up L 1 (x :: L 1)) := by rw [ap_leave_0 huw9] at hfm_25; exact hfm_25
      exact W.vret hx hb hr (fun t ht hW => ⟨⟨(va_up L 1 (x :: L 1), w, d, st, tg, hi, mi, go), rfl, hfin9, f_23, n_24, hfm_25d, by rw [ht]; exact hP, va_K.moved hW.alike hK, hD⟩, hS.F ht⟩) hS.2.2 dX2_comeNew_137
    · skip
      replace c_104 : ¬ ((((((L 1).length) + ((L 2).length)) + ((L 3).length)) + ((L 4).length)) < C) := fun h9 => c_104 ((nI_ltI (a := ((((L 1).length) + ((L 2).length)) + ((L 3).length)) + ((L 4).length)) (b := C) (by omega) (by omega)).mpr h9)
      refine lv_iload_n hx hb dX2_comeNew_107 rfl (lv_at hl 0 rfl) ?_
      refine lv_iconst (v := nI 2) hx hb dX2_comeNew_108 (by decide) ?_
      refine lv_aload_n hx hb dX2_comeNew_109 rfl (lv_at hl 1 rfl) ?_
      refine va_get (D := (dC, dI)) (ci := 2) (v := .int (nI C)) (C := RX2) (T := TX2) (N := 10) hx hb hts hwX2 hown hK hP 0 rfl rfl 0 (by decide) (hts (.fieldLink RX2 26 "ArcCacheModel" "pages" "I") (by decide +kernel)) (fun _ h9 => h9) rfl dX2_comeNew_110 ?_
      refine lv_imul hx hb dX2_comeNew_113 ?_
      refine lv_topi (fun x_26 e_x_26 => ?_)
      have e_x_26 : x_26 = nI (2 * C) := by rw [e_x_26]; exact pk_mul _ _
      subst e_x_26
      refine lv_icmp_ne (tgt := 126) hx hb dX2_comeNew_114 (by decide) (fun c_114 => ?_) (fun c_114 => ?_)
      · skip
        replace c_114 : ¬ ((((((L 1).length) + ((L 2).length)) + ((L 3).length)) + ((L 4).length)) = (2 * C)) := fun h9 => c_114 ((nI_eq (a := ((((L 1).length) + ((L 2).length)) + ((L 3).length)) + ((L 4).length)) (b := 2 * C) (by omega) (by omega)).mpr h9)
        refine lv_aload_n hx hb dX2_comeNew_126 rfl (lv_at hl 1 rfl) ?_
        refine lv_iload_n hx hb dX2_comeNew_127 rfl (lv_at hl 2 rfl) ?_
        have hcC9 : C ≤ ap_tot L := by omega
        have hcD8 : ¬ ap_tot L = 2 * C := by omega
        have eun9 : ap_un w C tg x (L, d, st, go) = ((ap_mk w tg x (L, d, st, go)).1, (ap_mk w tg x (L, d, st, go)).2.1, (ap_mk w tg x (L, d, st, go)).2.2.1, (ap_mk w tg x (L, d, st, go)).2.2.2) := ap_un_D (S := (L, d, st, go)) c_17 hcC9 hcD8
        have hPc := hP.sub (ws' := (cm q ca C f n w d st tg hi mi go)) [0, 1, 2, 3, 4, 5] rfl
        have hDc := hD.sub (ws' := (cm q ca C f n w d st tg hi mi go)) [0, 1, 2, 3, 4, 5] (by decide) rfl
        have hKc := hK.sub (tys' := (km ca)) [0, 1, 2, 3, 4] rfl
        have hFc := va_free (wc := (cm q ca C f n w d st tg hi mi go)) hD hS hA [0, 1, 2, 3, 4, 5] rfl
        refine va_callv (va_runV (As := [.int x]) (rest := []) ⟨hx, hb, hml, hown, hts⟩ (c_M_makeRoom l dC dI q ca C f n w d st tg hi mi go L x H.size hfm hI hz (by omega)) (cwV 1 hts gX2_comeNew_X2_makeRoom rfl rfl rfl (by decide +kernel) ⟨Nat.le_of_ble_eq_true rfl, Nat.le_of_ble_eq_true rfl⟩) ⟨fun a U g mk q => by obtain ⟨q0, q1, qP, qK, qD⟩ := q; exact ⟨q0, q1, qP, va_K.moved (u := U) (U := U.calling g mk a) (Vm.Alike.refl U.vm) qK, qD⟩, va_recv hKc hPc (ci := 2) (q0 := 0) rfl rfl, fun U hU hW => ⟨rfl, by rw [hU], by rw [hU]; exact hPc, va_K.moved hW.alike hKc, hDc.weaken (fun _ _ _ _ => trivial)⟩⟩ rfl rfl hl.1 rfl (lv_room (Nat.le_of_ble_eq_true rfl)) dX2_comeNew_128 ⟨Nat.le_of_ble_eq_true rfl, Nat.le_of_ble_eq_true rfl⟩) hS (fun q _ h => hFc q h) hFc (fun u t H1 locs ht hvm hw hB hz1 hk1 hS => ?_)
        obtain ⟨L1, w1, d1, st1, tg1, hi1, mi1, go1⟩ := u
        obtain ⟨f1, n1, hf1, hP1, hK1, hD1⟩ := hB
        rw [ht] at hP1
        obtain ⟨f_27, ef_27⟩ : ∃ z, z = f1 := ⟨_, rfl⟩
        rw [← ef_27] at hf1 hP1 hD1
        clear ef_27 f1
        obtain ⟨n_28, en_28⟩ : ∃ z, z = n1 := ⟨_, rfl⟩
        rw [← en_28] at hf1 hP1 hD1
        clear en_28 n1
        have hfm_29 := hf1
        replace hw := hw.symm
        simp only [ap_tu, Prod.mk.injEq] at hw
        obtain ⟨rfl, rfl, rfl, rfl, rfl, rfl, rfl, rfl⟩ := hw
        obtain ⟨hP, hD⟩ := va_join (wr := []) (w1 := (cm q ca C f_27 n_28 w ((ap_mk w tg x (L, d, st, go)).2.1) ((ap_mk w tg x (L, d, st, go)).2.2.1) tg hi mi ((ap_mk w tg x (L, d, st, go)).2.2.2))) hP hD [0, 1, 2, 3, 4, 5] [] rfl rfl (by decide) (by decide) hk1 hFc hP1 hD1
        generalize H1 = H at hP hS ⊢
        replace hP : va_P (dC, dI) vwCl (cm q ca C f_27 n_28 w ((ap_mk w tg x (L, d, st, go)).2.1) ((ap_mk w tg x (L, d, st, go)).2.2.1) tg hi mi ((ap_mk w tg x (L, d, st, go)).2.2.2)) H := hP
        replace hD : va_D A (cm q ca C f_27 n_28 w ((ap_mk w tg x (L, d, st, go)).2.1) ((ap_mk w tg x (L, d, st, go)).2.2.1) tg hi mi ((ap_mk w tg x (L, d, st, go)).2.2.2)) := hD
        have hun9 := ap_un_ok (w := w) (d := d) (st := st) (go := go) hok hw0
        have hfin9 : (va_up ((ap_mk w tg x (L, d, st, go)).1) 1 (x :: ((ap_mk w tg x (L, d, st, go)).1) 1), w, (ap_mk w tg x (L, d, st, go)).2.1, (ap_mk w tg x (L, d, st, go)).2.2.1, tg, hi, mi, (ap_mk w tg x (L, d, st, go)).2.2.2) = (va_up (ap_un w C tg x (L, d, st, go)).1 1 (x :: (ap_un w C tg x (L, d, st, go)).1 1), w, (ap_un w C tg x (L, d, st, go)).2.1, (ap_un w C tg x (L, d, st, go)).2.2.1, tg, hi, mi, (ap_un w C tg x (L, d, st, go)).2.2.2) := by rw [eun9]
        rw [eun9] at hun9
        obtain ⟨hui9, huw9, huz9, -, -⟩ := hun9
        try dsimp only at hui9 huw9 huz9
        refine lv_aload_n hx hb dX2_comeNew_131 rfl (lv_at hl 1 rfl) ?_
        refine lv_iload_n hx hb dX2_comeNew_132 rfl (lv_at hl 2 rfl) ?_
        refine lv_iconst (v := nI 1) hx hb dX2_comeNew_133 (by decide) ?_
        have huz8 : ap_tot ((ap_mk w tg x (L, d, st, go)).1) ≤ 48 := by omega
        have hPc := hP.sub (ws' := (cm q ca C f_27 n_28 w ((ap_mk w tg x (L, d, st, go)).2.1) ((ap_mk w tg x (L, d, st, go)).2.2.1) tg hi mi ((ap_mk w tg x (L, d, st, go)).2.2.2))) [0, 1, 2, 3, 4, 5] rfl
        have hDc := hD.sub (ws' := (cm q ca C f_27 n_28 w ((ap_mk w tg x (L, d, st, go)).2.1) ((ap_mk w tg x (L, d, st, go)).2.2.1) tg hi mi ((ap_mk w tg x (L, d, st, go)).2.2.2))) [0, 1, 2, 3, 4, 5] (by decide) rfl
        have hKc := hK.sub (tys' := (km ca)) [0, 1, 2, 3, 4] rfl
        have hFc := va_free (wc := (cm q ca C f_27 n_28 w ((ap_mk w tg x (L, d, st, go)).2.1) ((ap_mk w tg x (L, d, st, go)).2.2.1) tg hi mi ((ap_mk w tg x (L, d, st, go)).2.2.2))) hD hS hA [0, 1, 2, 3, 4, 5] rfl
        refine va_callv (va_runV (As := [.int x, .int (nI 1)]) (rest := []) ⟨hx, hb, hml, hown, hts⟩ (c_M_come l dC dI q ca C f_27 n_28 w ((ap_mk w tg x (L, d, st, go)).2.1) ((ap_mk w tg x (L, d, st, go)).2.2.1) tg hi mi ((ap_mk w tg x (L, d, st, go)).2.2.2) ((ap_mk w tg x (L, d, st, go)).1) x 1 H.size hfm_29 hui9 huz8 (by decide) (by decide)) (cwV 2 hts gX2_comeNew_X2_come rfl rfl rfl (by decide +kernel) ⟨Nat.le_of_ble_eq_true rfl, Nat.le_of_ble_eq_true rfl⟩) ⟨fun a U g mk q => by obtain ⟨q0, q1, qP, qK, qD⟩ := q; exact ⟨q0, q1, qP, va_K.moved (u := U) (U := U.calling g mk a) (Vm.Alike.refl U.vm) qK, qD⟩, va_recv hKc hPc (ci := 2) (q0 := 0) rfl rfl, fun U hU hW => ⟨rfl, by rw [hU], by rw [hU]; exact hPc, va_K.moved hW.alike hKc, hDc.weaken (fun _ _ _ _ => trivial)⟩⟩ rfl rfl hl.1 rfl (lv_room (Nat.le_of_ble_eq_true rfl)) dX2_comeNew_134 ⟨Nat.le_of_ble_eq_true rfl, Nat.le_of_ble_eq_true rfl⟩) hS (fun q _ h => hFc q h) hFc (fun u t H1 locs ht hvm hw hB hz1 hk1 hS => ?_)
        obtain ⟨L1, w1, d1, st1, tg1, hi1, mi1, go1⟩ := u
        obtain ⟨f1, n1, hf1, hP1, hK1, hD1⟩ := hB
        rw [ht] at hP1
        cases hw
        obtain ⟨f_30, ef_30⟩ : ∃ z, z = f1 := ⟨_, rfl⟩
        rw [← ef_30] at hf1 hP1 hD1
        clear ef_30 f1
        obtain ⟨n_31, en_31⟩ : ∃ z, z = n1 := ⟨_, rfl⟩
        rw [← en_31] at hf1 hP1 hD1
        clear en_31 n1
        have hfm_32 := hf1
        obtain ⟨hP, hD⟩ := va_join (wr := []) (w1 := (cm q ca C f_30 n_31 w ((ap_mk w tg x (L, d, st, go)).2.1) ((ap_mk w tg x (L, d, st, go)).2.2.1) tg hi mi ((ap_mk w tg x (L, d, st, go)).2.2.2))) hP hD [0, 1, 2, 3, 4, 5] [] rfl rfl (by decide) (by decide) hk1 hFc hP1 hD1
        generalize H1 = H at hP hS ⊢
        replace hP : va_P (dC, dI) vwCl (cm q ca C f_30 n_31 w ((ap_mk w tg x (L, d, st, go)).2.1) ((ap_mk w tg x (L, d, st, go)).2.2.1) tg hi mi ((ap_mk w tg x (L, d, st, go)).2.2.2)) H := hP
        replace hD : va_D A (cm q ca C f_30 n_31 w ((ap_mk w tg x (L, d, st, go)).2.1) ((ap_mk w tg x (L, d, st, go)).2.2.1) tg hi mi ((ap_mk w tg x (L, d, st, go)).2.2.2)) := hD
        have hfm_32d : fm_ok f_30 n_31 (va_up ((ap_mk w tg x (L, d, st, go)).1) 1 (x :: ((ap_mk w tg x (L, d, st, go)).1) 1)) := by rw [ap_leave_0 huw9] at hfm_32; exact hfm_32
        exact W.vret hx hb hr (fun t ht hW => ⟨⟨(va_up ((ap_mk w tg x (L, d, st, go)).1) 1 (x :: ((ap_mk w tg x (L, d, st, go)).1) 1), w, (ap_mk w tg x (L, d, st, go)).2.1, (ap_mk w tg x (L, d, st, go)).2.2.1, tg, hi, mi, (ap_mk w tg x (L, d, st, go)).2.2.2), rfl, hfin9, f_30, n_31, hfm_32d, by rw [ht]; exact hP, va_K.moved hW.alike hK, hD⟩, hS.F ht⟩) hS.2.2 dX2_comeNew_137
      · skip
        replace c_114 : (((((L 1).length) + ((L 2).length)) + ((L 3).length)) + ((L 4).length)) = (2 * C) := (nI_eq (a := ((((L 1).length) + ((L 2).length)) + ((L 3).length)) + ((L 4).length)) (b := 2 * C) (by omega) (by omega)).mp c_114
        refine lv_aload_n hx hb dX2_comeNew_117 rfl (lv_at hl 1 rfl) ?_
        refine lv_aload_n hx hb dX2_comeNew_118 rfl (lv_at hl 1 rfl) ?_
        refine lv_iconst (v := nI 4) hx hb dX2_comeNew_119 (by decide) ?_
        have hne9 : L 4 ≠ [] := ap_ne (by omega)
        have hx64 : vp_in (ap_old (L 4)) 64 := ap_old_in hI hne9
        have hwo9 : ap_wl L (ap_old (L 4)) = 4 := ap_wl_of hI (ap_old_mem hne9)
        have hPc := hP.sub (ws' := (cm q ca C f n w d st tg hi mi go)) [0, 1, 2, 3, 4, 5] rfl
        have hDc := hD.sub (ws' := (cm q ca C f n w d st tg hi mi go)) [0, 1, 2, 3, 4, 5] (by decide) rfl
        have hKc := hK.sub (tys' := (km ca)) [0, 1, 2, 3, 4] rfl
        have hFc := va_free (wc := (cm q ca C f n w d st tg hi mi go)) hD hS hA [0, 1, 2, 3, 4, 5] rfl
        refine va_calli (va_runV (As := [.int (nI 4)]) (rest := [.ref (q 0)]) ⟨hx, hb, hml, hown, hts⟩ (c_M_old l dC dI q ca C f n w d st tg hi mi go L 4 H.size hfm hI hz (by decide) (by decide) hne9) (cwV 1 hts gX2_comeNew_X2_old rfl rfl rfl (by decide +kernel) ⟨Nat.le_of_ble_eq_true rfl, Nat.le_of_ble_eq_true rfl⟩) ⟨fun a U g mk q => by obtain ⟨q0, q1, qP, qK, qD⟩ := q; exact ⟨q0, q1, qP, va_K.moved (u := U) (U := U.calling g mk a) (Vm.Alike.refl U.vm) qK, qD⟩, va_recv hKc hPc (ci := 2) (q0 := 0) rfl rfl, fun U hU hW => ⟨rfl, by rw [hU], by rw [hU]; exact hPc, va_K.moved hW.alike hKc, hDc.weaken (fun _ _ _ _ => trivial)⟩⟩ rfl rfl hl.1 rfl (lv_room (Nat.le_of_ble_eq_true rfl)) dX2_comeNew_120 ⟨Nat.le_of_ble_eq_true rfl, Nat.le_of_ble_eq_true rfl⟩) hS (fun q _ h => hFc q h) hFc (fun r u t H1 locs ht hvm hw hB hz1 hk1 hS => ?_)
        obtain ⟨L1, w1, d1, st1, tg1, hi1, mi1, go1⟩ := u
        obtain ⟨f1, n1, hf1, hP1, hK1, hD1⟩ := hB
        rw [ht] at hP1
        obtain ⟨hr9, hw⟩ := hw
        cases hw
        obtain ⟨f_33, ef_33⟩ : ∃ z, z = f1 := ⟨_, rfl⟩
        rw [← ef_33] at hf1 hP1 hD1
        clear ef_33 f1
        obtain ⟨n_34, en_34⟩ : ∃ z, z = n1 := ⟨_, rfl⟩
        rw [← en_34] at hf1 hP1 hD1
        clear en_34 n1
        have hfm_35 := hf1
        obtain ⟨hP, hD⟩ := va_join (wr := []) (w1 := (cm q ca C f_33 n_34 w d st tg hi mi go)) hP hD [0, 1, 2, 3, 4, 5] [] rfl rfl (by decide) (by decide) hk1 hFc hP1 hD1
        generalize H1 = H at hP hS ⊢
        replace hP : va_P (dC, dI) vwCl (cm q ca C f_33 n_34 w d st tg hi mi go) H := hP
        replace hD : va_D A (cm q ca C f_33 n_34 w d st tg hi mi go) := hD
        subst hr9
        have hPc := hP.sub (ws' := (cm q ca C f_33 n_34 w d st tg hi mi go)) [0, 1, 2, 3, 4, 5] rfl
        have hDc := hD.sub (ws' := (cm q ca C f_33 n_34 w d st tg hi mi go)) [0, 1, 2, 3, 4, 5] (by decide) rfl
        have hKc := hK.sub (tys' := (km ca)) [0, 1, 2, 3, 4] rfl
        have hFc := va_free (wc := (cm q ca C f_33 n_34 w d st tg hi mi go)) hD hS hA [0, 1, 2, 3, 4, 5] rfl
        refine va_callv (va_runV (As := [.int (ap_old (L 4))]) (rest := []) ⟨hx, hb, hml, hown, hts⟩ (c_M_leave l dC dI q ca C f_33 n_34 w d st tg hi mi go L (ap_old (L 4)) H.size hfm_35 hI hz) (cwV 1 hts gX2_comeNew_X2_leave rfl rfl rfl (by decide +kernel) ⟨Nat.le_of_ble_eq_true rfl, Nat.le_of_ble_eq_true rfl⟩) ⟨fun a U g mk q => by obtain ⟨q0, q1, qP, qK, qD⟩ := q; exact ⟨q0, q1, qP, va_K.moved (u := U) (U := U.calling g mk a) (Vm.Alike.refl U.vm) qK, qD⟩, va_recv hKc hPc (ci := 2) (q0 := 0) rfl rfl, fun U hU hW => ⟨rfl, by rw [hU], by rw [hU]; exact hPc, va_K.moved hW.alike hKc, hDc.weaken (fun _ _ _ _ => trivial)⟩⟩ rfl rfl hl.1 rfl (lv_room (Nat.le_of_ble_eq_true rfl)) dX2_comeNew_123 ⟨Nat.le_of_ble_eq_true rfl, Nat.le_of_ble_eq_true rfl⟩) hS (fun q _ h => hFc q h) hFc (fun u t H1 locs ht hvm hw hB hz1 hk1 hS => ?_)
        obtain ⟨L1, w1, d1, st1, tg1, hi1, mi1, go1⟩ := u
        obtain ⟨f1, n1, hf1, hP1, hK1, hD1⟩ := hB
        rw [ht] at hP1
        cases hw
        obtain ⟨f_36, ef_36⟩ : ∃ z, z = f1 := ⟨_, rfl⟩
        rw [← ef_36] at hf1 hP1 hD1
        clear ef_36 f1
        obtain ⟨n_37, en_37⟩ : ∃ z, z = n1 := ⟨_, rfl⟩
        rw [← en_37] at hf1 hP1 hD1
        clear en_37 n1
        have hfm_38 := hf1
        obtain ⟨hP, hD⟩ := va_join (wr := []) (w1 := (cm q ca C f_36 n_37 w d st tg hi mi go)) hP hD [0, 1, 2, 3, 4, 5] [] rfl rfl (by decide) (by decide) hk1 hFc hP1 hD1
        generalize H1 = H at hP hS ⊢
        replace hP : va_P (dC, dI) vwCl (cm q ca C f_36 n_37 w d st tg hi mi go) H := hP
        replace hD : va_D A (cm q ca C f_36 n_37 w d st tg hi mi go) := hD
        have hfm_38d : fm_ok f_36 n_37 (ap_dr L 4) := by rw [ap_leave_1 hwo9 (by decide)] at hfm_38; exact hfm_38
        refine lv_aload_n hx hb dX2_comeNew_126 rfl (lv_at hl 1 rfl) ?_
        refine lv_iload_n hx hb dX2_comeNew_127 rfl (lv_at hl 2 rfl) ?_
        have hcC9 : C ≤ ap_tot L := by omega
        have hcC8 : ap_tot L = 2 * C := by omega
        have eun9 : ap_un w C tg x (L, d, st, go) = ((ap_mk w tg x (ap_dr L 4, d, st, go)).1, (ap_mk w tg x (ap_dr L 4, d, st, go)).2.1, (ap_mk w tg x (ap_dr L 4, d, st, go)).2.2.1, (ap_mk w tg x (ap_dr L 4, d, st, go)).2.2.2) := ap_un_C (S := (L, d, st, go)) c_17 hcC9 hcC8
        have hPc := hP.sub (ws' := (cm q ca C f_36 n_37 w d st tg hi mi go)) [0, 1, 2, 3, 4, 5] rfl
        have hDc := hD.sub (ws' := (cm q ca C f_36 n_37 w d st tg hi mi go)) [0, 1, 2, 3, 4, 5] (by decide) rfl
        have hKc := hK.sub (tys' := (km ca)) [0, 1, 2, 3, 4] rfl
        have hFc := va_free (wc := (cm q ca C f_36 n_37 w d st tg hi mi go)) hD hS hA [0, 1, 2, 3, 4, 5] rfl
        refine va_callv (va_runV (As := [.int x]) (rest := []) ⟨hx, hb, hml, hown, hts⟩ (c_M_makeRoom l dC dI q ca C f_36 n_37 w d st tg hi mi go (ap_dr L 4) x H.size hfm_38d (ap_inv_dr hI 4) (ap_tot_dr hz 4) (by omega)) (cwV 1 hts gX2_comeNew_X2_makeRoom rfl rfl rfl (by decide +kernel) ⟨Nat.le_of_ble_eq_true rfl, Nat.le_of_ble_eq_true rfl⟩) ⟨fun a U g mk q => by obtain ⟨q0, q1, qP, qK, qD⟩ := q; exact ⟨q0, q1, qP, va_K.moved (u := U) (U := U.calling g mk a) (Vm.Alike.refl U.vm) qK, qD⟩, va_recv hKc hPc (ci := 2) (q0 := 0) rfl rfl, fun U hU hW => ⟨rfl, by rw [hU], by rw [hU]; exact hPc, va_K.moved hW.alike hKc, hDc.weaken (fun _ _ _ _ => trivial)⟩⟩ rfl rfl hl.1 rfl (lv_room (Nat.le_of_ble_eq_true rfl)) dX2_comeNew_128 ⟨Nat.le_of_ble_eq_true rfl, Nat.le_of_ble_eq_true rfl⟩) hS (fun q _ h => hFc q h) hFc (fun u t H1 locs ht hvm hw hB hz1 hk1 hS => ?_)
        obtain ⟨L1, w1, d1, st1, tg1, hi1, mi1, go1⟩ := u
        obtain ⟨f1, n1, hf1, hP1, hK1, hD1⟩ := hB
        rw [ht] at hP1
        obtain ⟨f_39, ef_39⟩ : ∃ z, z = f1 := ⟨_, rfl⟩
        rw [← ef_39] at hf1 hP1 hD1
        clear ef_39 f1
        obtain ⟨n_40, en_40⟩ : ∃ z, z = n1 := ⟨_, rfl⟩
        rw [← en_40] at hf1 hP1 hD1
        clear en_40 n1
        have hfm_41 := hf1
        replace hw := hw.symm
        simp only [ap_tu, Prod.mk.injEq] at hw
        obtain ⟨rfl, rfl, rfl, rfl, rfl, rfl, rfl, rfl⟩ := hw
        obtain ⟨hP, hD⟩ := va_join (wr := []) (w1 := (cm q ca C f_39 n_40 w ((ap_mk w tg x (ap_dr L 4, d, st, go)).2.1) ((ap_mk w tg x (ap_dr L 4, d, st, go)).2.2.1) tg hi mi ((ap_mk w tg x (ap_dr L 4, d, st, go)).2.2.2))) hP hD [0, 1, 2, 3, 4, 5] [] rfl rfl (by decide) (by decide) hk1 hFc hP1 hD1
        generalize H1 = H at hP hS ⊢
        replace hP : va_P (dC, dI) vwCl (cm q ca C f_39 n_40 w ((ap_mk w tg x (ap_dr L 4, d, st, go)).2.1) ((ap_mk w tg x (ap_dr L 4, d, st, go)).2.2.1) tg hi mi ((ap_mk w tg x (ap_dr L 4, d, st, go)).2.2.2)) H := hP
        replace hD : va_D A (cm q ca C f_39 n_40 w ((ap_mk w tg x (ap_dr L 4, d, st, go)).2.1) ((ap_mk w tg x (ap_dr L 4, d, st, go)).2.2.1) tg hi mi ((ap_mk w tg x (ap_dr L 4, d, st, go)).2.2.2)) := hD
        have hun9 := ap_un_ok (w := w) (d := d) (st := st) (go := go) hok hw0
        have hfin9 : (va_up ((ap_mk w tg x (ap_dr L 4, d, st, go)).1) 1 (x :: ((ap_mk w tg x (ap_dr L 4, d, st, go)).1) 1), w, (ap_mk w tg x (ap_dr L 4, d, st, go)).2.1, (ap_mk w tg x (ap_dr L 4, d, st, go)).2.2.1, tg, hi, mi, (ap_mk w tg x (ap_dr L 4, d, st, go)).2.2.2) = (va_up (ap_un w C tg x (L, d, st, go)).1 1 (x :: (ap_un w C tg x (L, d, st, go)).1 1), w, (ap_un w C tg x (L, d, st, go)).2.1, (ap_un w C tg x (L, d, st, go)).2.2.1, tg, hi, mi, (ap_un w C tg x (L, d, st, go)).2.2.2) := by rw [eun9]
        rw [eun9] at hun9
        obtain ⟨hui9, huw9, huz9, -, -⟩ := hun9
        try dsimp only at hui9 huw9 huz9
        refine lv_aload_n hx hb dX2_comeNew_131 rfl (lv_at hl 1 rfl) ?_
        refine lv_iload_n hx hb dX2_comeNew_132 rfl (lv_at hl 2 rfl) ?_
        refine lv_iconst (v := nI 1) hx hb dX2_comeNew_133 (by decide) ?_
        have huz8 : ap_tot ((ap_mk w tg x (ap_dr L 4, d, st, go)).1) ≤ 48 := by omega
        have hPc := hP.sub (ws' := (cm q ca C f_39 n_40 w ((ap_mk w tg x (ap_dr L 4, d, st, go)).2.1) ((ap_mk w tg x (ap_dr L 4, d, st, go)).2.2.1) tg hi mi ((ap_mk w tg x (ap_dr L 4, d, st, go)).2.2.2))) [0, 1, 2, 3, 4, 5] rfl
        have hDc := hD.sub (ws' := (cm q ca C f_39 n_40 w ((ap_mk w tg x (ap_dr L 4, d, st, go)).2.1) ((ap_mk w tg x (ap_dr L 4, d, st, go)).2.2.1) tg hi mi ((ap_mk w tg x (ap_dr L 4, d, st, go)).2.2.2))) [0, 1, 2, 3, 4, 5] (by decide) rfl
        have hKc := hK.sub (tys' := (km ca)) [0, 1, 2, 3, 4] rfl
        have hFc := va_free (wc := (cm q ca C f_39 n_40 w ((ap_mk w tg x (ap_dr L 4, d, st, go)).2.1) ((ap_mk w tg x (ap_dr L 4, d, st, go)).2.2.1) tg hi mi ((ap_mk w tg x (ap_dr L 4, d, st, go)).2.2.2))) hD hS hA [0, 1, 2, 3, 4, 5] rfl
        refine va_callv (va_runV (As := [.int x, .int (nI 1)]) (rest := []) ⟨hx, hb, hml, hown, hts⟩ (c_M_come l dC dI q ca C f_39 n_40 w ((ap_mk w tg x (ap_dr L 4, d, st, go)).2.1) ((ap_mk w tg x (ap_dr L 4, d, st, go)).2.2.1) tg hi mi ((ap_mk w tg x (ap_dr L 4, d, st, go)).2.2.2) ((ap_mk w tg x (ap_dr L 4, d, st, go)).1) x 1 H.size hfm_41 hui9 huz8 (by decide) (by decide)) (cwV 2 hts gX2_comeNew_X2_come rfl rfl rfl (by decide +kernel) ⟨Nat.le_of_ble_eq_true rfl, Nat.le_of_ble_eq_true rfl⟩) ⟨fun a U g mk q => by obtain ⟨q0, q1, qP, qK, qD⟩ := q; exact ⟨q0, q1, qP, va_K.moved (u := U) (U := U.calling g mk a) (Vm.Alike.refl U.vm) qK, qD⟩, va_recv hKc hPc (ci := 2) (q0 := 0) rfl rfl, fun U hU hW => ⟨rfl, by rw [hU], by rw [hU]; exact hPc, va_K.moved hW.alike hKc, hDc.weaken (fun _ _ _ _ => trivial)⟩⟩ rfl rfl hl.1 rfl (lv_room (Nat.le_of_ble_eq_true rfl)) dX2_comeNew_134 ⟨Nat.le_of_ble_eq_true rfl, Nat.le_of_ble_eq_true rfl⟩) hS (fun q _ h => hFc q h) hFc (fun u t H1 locs ht hvm hw hB hz1 hk1 hS => ?_)
        obtain ⟨L1, w1, d1, st1, tg1, hi1, mi1, go1⟩ := u
        obtain ⟨f1, n1, hf1, hP1, hK1, hD1⟩ := hB
        rw [ht] at hP1
        cases hw
        obtain ⟨f_42, ef_42⟩ : ∃ z, z = f1 := ⟨_, rfl⟩
        rw [← ef_42] at hf1 hP1 hD1
        clear ef_42 f1
        obtain ⟨n_43, en_43⟩ : ∃ z, z = n1 := ⟨_, rfl⟩
        rw [← en_43] at hf1 hP1 hD1
        clear en_43 n1
        have hfm_44 := hf1
        obtain ⟨hP, hD⟩ := va_join (wr := []) (w1 := (cm q ca C f_42 n_43 w ((ap_mk w tg x (ap_dr L 4, d, st, go)).2.1) ((ap_mk w tg x (ap_dr L 4, d, st, go)).2.2.1) tg hi mi ((ap_mk w tg x (ap_dr L 4, d, st, go)).2.2.2))) hP hD [0, 1, 2, 3, 4, 5] [] rfl rfl (by decide) (by decide) hk1 hFc hP1 hD1
        generalize H1 = H at hP hS ⊢
        replace hP : va_P (dC, dI) vwCl (cm q ca C f_42 n_43 w ((ap_mk w tg x (ap_dr L 4, d, st, go)).2.1) ((ap_mk w tg x (ap_dr L 4, d, st, go)).2.2.1) tg hi mi ((ap_mk w tg x (ap_dr L 4, d, st, go)).2.2.2)) H := hP
        replace hD : va_D A (cm q ca C f_42 n_43 w ((ap_mk w tg x (ap_dr L 4, d, st, go)).2.1) ((ap_mk w tg x (ap_dr L 4, d, st, go)).2.2.1) tg hi mi ((ap_mk w tg x (ap_dr L 4, d, st, go)).2.2.2)) := hD
        have hfm_44d : fm_ok f_42 n_43 (va_up ((ap_mk w tg x (ap_dr L 4, d, st, go)).1) 1 (x :: ((ap_mk w tg x (ap_dr L 4, d, st, go)).1) 1)) := by rw [ap_leave_0 huw9] at hfm_44; exact hfm_44
        exact W.vret hx hb hr (fun t ht hW => ⟨⟨(va_up ((ap_mk w tg x (ap_dr L 4, d, st, go)).1) 1 (x :: ((ap_mk w tg x (ap_dr L 4, d, st, go)).1) 1), w, (ap_mk w tg x (ap_dr L 4, d, st, go)).2.1, (ap_mk w tg x (ap_dr L 4, d, st, go)).2.2.1, tg, hi, mi, (ap_mk w tg x (ap_dr L 4, d, st, go)).2.2.2), rfl, hfin9, f_42, n_43, hfm_44d, by rw [ht]; exact hP, va_K.moved hW.alike hK, hD⟩, hS.F ht⟩) hS.2.2 dX2_comeNew_137
  · skip
    replace c_17 : (((L 1).length) + ((L 3).length)) = C := (nI_eq (a := ((L 1).length) + ((L 3).length)) (b := C) (by omega) (by omega)).mp c_17
    refine lv_aload_n hx hb dX2_comeNew_20 rfl (lv_at hl 0 rfl) ?_
    refine va_get (D := (dC, dI)) (ci := 2) (v := .ref (q 2)) (C := RX2) (T := TX2) (N := 10) hx hb hts hwX2 hown hK hP 0 rfl rfl 2 (by decide) (hts (.fieldLink RX2 13 "ArcCacheModel" "many" "[I") (by decide +kernel)) (fun _ h9 => h9) rfl dX2_comeNew_21 ?_
    refine lv_iconst (v := nI 1) hx hb dX2_comeNew_24 (by decide) ?_
    refine va_iald hx hb hK hP 2 1 rfl rfl (vp_in_nI (show 1 < 5 by omega) (by decide)) dX2_comeNew_25 ?_
    refine lv_topi (fun x_46 e_x_46 => ?_)
    have e_x_46 : x_46 = n 1 := by rw [e_x_46]; rw [nI_clamp (by omega)]
    subst e_x_46
    refine lv_topi (fun x_47 e_x_47 => ?_)
    have e_x_47 : x_47 = nI ((L 1).length) := by rw [e_x_47]; exact (hfm 1 (by decide) (by decide)).1
    subst e_x_47
    refine lv_aload_n hx hb dX2_comeNew_26 rfl (lv_at hl 0 rfl) ?_
    refine va_get (D := (dC, dI)) (ci := 2) (v := .int (nI C)) (C := RX2) (T := TX2) (N := 10) hx hb hts hwX2 hown hK hP 0 rfl rfl 0 (by decide) (hts (.fieldLink RX2 26 "ArcCacheModel" "pages" "I") (by decide +kernel)) (fun _ h9 => h9) rfl dX2_comeNew_27 ?_
    refine lv_icmp_ge (tgt := 50) hx hb dX2_comeNew_30 (by decide) (fun c_30 => ?_) (fun c_30 => ?_)
    · skip
      replace c_30 : C ≤ ((L 1).length) := (nI_leI (a := C) (b := (L 1).length) (by omega) (by omega)).mp c_30
      refine lv_aload_n hx hb dX2_comeNew_50 rfl (lv_at hl 0 rfl) ?_
      refine lv_aload_n hx hb dX2_comeNew_51 rfl (lv_at hl 0 rfl) ?_
      refine lv_iconst (v := nI 1) hx hb dX2_comeNew_52 (by decide) ?_
      have hne9 : L 1 ≠ [] := ap_ne (by omega)
      have hx64 : vp_in (ap_old (L 1)) 64 := ap_old_in hI hne9
      have hwo9 : ap_wl L (ap_old (L 1)) = 1 := ap_wl_of hI (ap_old_mem hne9)
      have hPc := hP.sub (ws' := (cm q ca C f n w d st tg hi mi go)) [0, 1, 2, 3, 4, 5] rfl
      have hDc := hD.sub (ws' := (cm q ca C f n w d st tg hi mi go)) [0, 1, 2, 3, 4, 5] (by decide) rfl
      have hKc := hK.sub (tys' := (km ca)) [0, 1, 2, 3, 4] rfl
      have hFc := va_free (wc := (cm q ca C f n w d st tg hi mi go)) hD hS hA [0, 1, 2, 3, 4, 5] rfl
      refine va_calli (va_runV (As := [.int (nI 1)]) (rest := [.ref (q 0)]) ⟨hx, hb, hml, hown, hts⟩ (c_M_old l dC dI q ca C f n w d st tg hi mi go L 1 H.size hfm hI hz (by decide) (by decide) hne9) (cwV 1 hts gX2_comeNew_X2_old rfl rfl rfl (by decide +kernel) ⟨Nat.le_of_ble_eq_true rfl, Nat.le_of_ble_eq_true rfl⟩) ⟨fun a U g mk q => by obtain ⟨q0, q1, qP, qK, qD⟩ := q; exact ⟨q0, q1, qP, va_K.moved (u := U) (U := U.calling g mk a) (Vm.Alike.refl U.vm) qK, qD⟩, va_recv hKc hPc (ci := 2) (q0 := 0) rfl rfl, fun U hU hW => ⟨rfl, by rw [hU], by rw [hU]; exact hPc, va_K.moved hW.alike hKc, hDc.weaken (fun _ _ _ _ => trivial)⟩⟩ rfl rfl hl.1 rfl (lv_room (Nat.le_of_ble_eq_true rfl)) dX2_comeNew_53 ⟨Nat.le_of_ble_eq_true rfl, Nat.le_of_ble_eq_true rfl⟩) hS (fun q _ h => hFc q h) hFc (fun r u t H1 locs ht hvm hw hB hz1 hk1 hS => ?_)
      obtain ⟨L1, w1, d1, st1, tg1, hi1, mi1, go1⟩ := u
      obtain ⟨f1, n1, hf1, hP1, hK1, hD1⟩ := hB
      rw [ht] at hP1
      obtain ⟨hr9, hw⟩ := hw
      cases hw
      obtain ⟨f_48, ef_48⟩ : ∃ z, z = f1 := ⟨_, rfl⟩
      rw [← ef_48] at hf1 hP1 hD1
      clear ef_48 f1
      obtain ⟨n_49, en_49⟩ : ∃ z, z = n1 := ⟨_, rfl⟩
      rw [← en_49] at hf1 hP1 hD1
      clear en_49 n1
      have hfm_50 := hf1
      obtain ⟨hP, hD⟩ := va_join (wr := []) (w1 := (cm q ca C f_48 n_49 w d st tg hi mi go)) hP hD [0, 1, 2, 3, 4, 5] [] rfl rfl (by decide) (by decide) hk1 hFc hP1 hD1
      generalize H1 = H at hP hS ⊢
      replace hP : va_P (dC, dI) vwCl (cm q ca C f_48 n_49 w d st tg hi mi go) H := hP
      replace hD : va_D A (cm q ca C f_48 n_49 w d st tg hi mi go) := hD
      subst hr9
      have hPc := hP.sub (ws' := (cm q ca C f_48 n_49 w d st tg hi mi go)) [0, 1, 2, 3, 4, 5] rfl
      have hDc := hD.sub (ws' := (cm q ca C f_48 n_49 w d st tg hi mi go)) [0, 1, 2, 3, 4, 5] (by decide) rfl
      have hKc := hK.sub (tys' := (km ca)) [0, 1, 2, 3, 4] rfl
      have hFc := va_free (wc := (cm q ca C f_48 n_49 w d st tg hi mi go)) hD hS hA [0, 1, 2, 3, 4, 5] rfl
      refine va_callv (va_runV (As := [.int (ap_old (L 1))]) (rest := []) ⟨hx, hb, hml, hown, hts⟩ (c_M_go l dC dI q ca C f_48 n_49 w d st tg hi mi go L (ap_old (L 1)) H.size hfm_50 hx64) (cwV 1 hts gX2_comeNew_X2_go rfl rfl rfl (by decide +kernel) ⟨Nat.le_of_ble_eq_true rfl, Nat.le_of_ble_eq_true rfl⟩) ⟨fun a U g mk q => by obtain ⟨q0, q1, qP, qK, qD⟩ := q; exact ⟨q0, q1, qP, va_K.moved (u := U) (U := U.calling g mk a) (Vm.Alike.refl U.vm) qK, qD⟩, va_recv hKc hPc (ci := 2) (q0 := 0) rfl rfl, fun U hU hW => ⟨rfl, by rw [hU], by rw [hU]; exact hPc, va_K.moved hW.alike hKc, hDc.weaken (fun _ _ _ _ => trivial)⟩⟩ rfl rfl hl.1 rfl (lv_room (Nat.le_of_ble_eq_true rfl)) dX2_comeNew_56 ⟨Nat.le_of_ble_eq_true rfl, Nat.le_of_ble_eq_true rfl⟩) hS (fun q _ h => hFc q h) hFc (fun u t H1 locs ht hvm hw hB hz1 hk1 hS => ?_)
      obtain ⟨L1, w1, d1, st1, tg1, hi1, mi1, go1⟩ := u
      obtain ⟨f1, n1, hf1, hP1, hK1, hD1⟩ := hB
      rw [ht] at hP1
      cases hw
      obtain ⟨f_51, ef_51⟩ : ∃ z, z = f1 := ⟨_, rfl⟩
      rw [← ef_51] at hf1 hP1 hD1
      clear ef_51 f1
      obtain ⟨n_52, en_52⟩ : ∃ z, z = n1 := ⟨_, rfl⟩
      rw [← en_52] at hf1 hP1 hD1
      clear en_52 n1
      have hfm_53 := hf1
      obtain ⟨hP, hD⟩ := va_join (wr := []) (w1 := (cm q ca C f_51 n_52 w (ap_cd d (ap_old (L 1))) (ap_cs w d st (ap_old (L 1))) tg hi mi (go + 1))) hP hD [0, 1, 2, 3, 4, 5] [] rfl rfl (by decide) (by decide) hk1 hFc hP1 hD1
      generalize H1 = H at hP hS ⊢
      replace hP : va_P (dC, dI) vwCl (cm q ca C f_51 n_52 w (ap_cd d (ap_old (L 1))) (ap_cs w d st (ap_old (L 1))) tg hi mi (go + 1)) H := hP
      replace hD : va_D A (cm q ca C f_51 n_52 w (ap_cd d (ap_old (L 1))) (ap_cs w d st (ap_old (L 1))) tg hi mi (go + 1)) := hD
      refine lv_aload_n hx hb dX2_comeNew_59 rfl (lv_at hl 0 rfl) ?_
      refine lv_aload_n hx hb dX2_comeNew_60 rfl (lv_at hl 0 rfl) ?_
      refine lv_iconst (v := nI 1) hx hb dX2_comeNew_61 (by decide) ?_
      have hPc := hP.sub (ws' := (cm q ca C f_51 n_52 w (ap_cd d (ap_old (L 1))) (ap_cs w d st (ap_old (L 1))) tg hi mi (go + 1))) [0, 1, 2, 3, 4, 5] rfl
      have hDc := hD.sub (ws' := (cm q ca C f_51 n_52 w (ap_cd d (ap_old (L 1))) (ap_cs w d st (ap_old (L 1))) tg hi mi (go + 1))) [0, 1, 2, 3, 4, 5] (by decide) rfl
      have hKc := hK.sub (tys' := (km ca)) [0, 1, 2, 3, 4] rfl
      have hFc := va_free (wc := (cm q ca C f_51 n_52 w (ap_cd d (ap_old (L 1))) (ap_cs w d st (ap_old (L 1))) tg hi mi (go + 1))) hD hS hA [0, 1, 2, 3, 4, 5] rfl
      refine va_calli (va_runV (As := [.int (nI 1)]) (rest := [.ref (q 0)]) ⟨hx, hb, hml, hown, hts⟩ (c_M_old l dC dI q ca C f_51 n_52 w (ap_cd d (ap_old (L 1))) (ap_cs w d st (ap_old (L 1))) tg hi mi (go + 1) L 1 H.size hfm_53 hI hz (by decide) (by decide) hne9) (cwV 1 hts gX2_comeNew_X2_old rfl rfl rfl (by decide +kernel) ⟨Nat.le_of_ble_eq_true rfl, Nat.le_of_ble_eq_true rfl⟩) ⟨fun a U g mk q => by obtain ⟨q0, q1, qP, qK, qD⟩ := q; exact ⟨q0, q1, qP, va_K.moved (u := U) (U := U.calling g mk a) (Vm.Alike.refl U.vm) qK, qD⟩, va_recv hKc hPc (ci := 2) (q0 := 0) rfl rfl, fun U hU hW => ⟨rfl, by rw [hU], by rw [hU]; exact hPc, va_K.moved hW.alike hKc, hDc.weaken (fun _ _ _ _ => trivial)⟩⟩ rfl rfl hl.1 rfl (lv_room (Nat.le_of_ble_eq_true rfl)) dX2_comeNew_62 ⟨Nat.le_of_ble_eq_true rfl, Nat.le_of_ble_eq_true rfl⟩) hS (fun q _ h => hFc q h) hFc (fun r u t H1 locs ht hvm hw hB hz1 hk1 hS => ?_)
      obtain ⟨L1, w1, d1, st1, tg1, hi1, mi1, go1⟩ := u
      obtain ⟨f1, n1, hf1, hP1, hK1, hD1⟩ := hB
      rw [ht] at hP1
      obtain ⟨hr9, hw⟩ := hw
      cases hw
      obtain ⟨f_54, ef_54⟩ : ∃ z, z = f1 := ⟨_, rfl⟩
      rw [← ef_54] at hf1 hP1 hD1
      clear ef_54 f1
      obtain ⟨n_55, en_55⟩ : ∃ z, z = n1 := ⟨_, rfl⟩
      rw [← en_55] at hf1 hP1 hD1
      clear en_55 n1
      have hfm_56 := hf1
      obtain ⟨hP, hD⟩ := va_join (wr := []) (w1 := (cm q ca C f_54 n_55 w (ap_cd d (ap_old (L 1))) (ap_cs w d st (ap_old (L 1))) tg hi mi (go + 1))) hP hD [0, 1, 2, 3, 4, 5] [] rfl rfl (by decide) (by decide) hk1 hFc hP1 hD1
      generalize H1 = H at hP hS ⊢
      replace hP : va_P (dC, dI) vwCl (cm q ca C f_54 n_55 w (ap_cd d (ap_old (L 1))) (ap_cs w d st (ap_old (L 1))) tg hi mi (go + 1)) H := hP
      replace hD : va_D A (cm q ca C f_54 n_55 w (ap_cd d (ap_old (L 1))) (ap_cs w d st (ap_old (L 1))) tg hi mi (go + 1)) := hD
      subst hr9
      have hPc := hP.sub (ws' := (cm q ca C f_54 n_55 w (ap_cd d (ap_old (L 1))) (ap_cs w d st (ap_old (L 1))) tg hi mi (go + 1))) [0, 1, 2, 3, 4, 5] rfl
      have hDc := hD.sub (ws' := (cm q ca C f_54 n_55 w (ap_cd d (ap_old (L 1))) (ap_cs w d st (ap_old (L 1))) tg hi mi (go + 1))) [0, 1, 2, 3, 4, 5] (by decide) rfl
      have hKc := hK.sub (tys' := (km ca)) [0, 1, 2, 3, 4] rfl
      have hFc := va_free (wc := (cm q ca C f_54 n_55 w (ap_cd d (ap_old (L 1))) (ap_cs w d st (ap_old (L 1))) tg hi mi (go + 1))) hD hS hA [0, 1, 2, 3, 4, 5] rfl
      refine va_callv (va_runV (As := [.int (ap_old (L 1))]) (rest := []) ⟨hx, hb, hml, hown, hts⟩ (c_M_leave l dC dI q ca C f_54 n_55 w (ap_cd d (ap_old (L 1))) (ap_cs w d st (ap_old (L 1))) tg hi mi (go + 1) L (ap_old (L 1)) H.size hfm_56 hI hz) (cwV 1 hts gX2_comeNew_X2_leave rfl rfl rfl (by decide +kernel) ⟨Nat.le_of_ble_eq_true rfl, Nat.le_of_ble_eq_true rfl⟩) ⟨fun a U g mk q => by obtain ⟨q0, q1, qP, qK, qD⟩ := q; exact ⟨q0, q1, qP, va_K.moved (u := U) (U := U.calling g mk a) (Vm.Alike.refl U.vm) qK, qD⟩, va_recv hKc hPc (ci := 2) (q0 := 0) rfl rfl, fun U hU hW => ⟨rfl, by rw [hU], by rw [hU]; exact hPc, va_K.moved hW.alike hKc, hDc.weaken (fun _ _ _ _ => trivial)⟩⟩ rfl rfl hl.1 rfl (lv_room (Nat.le_of_ble_eq_true rfl)) dX2_comeNew_65 ⟨Nat.le_of_ble_eq_true rfl, Nat.le_of_ble_eq_true rfl⟩) hS (fun q _ h => hFc q h) hFc (fun u t H1 locs ht hvm hw hB hz1 hk1 hS => ?_)
      obtain ⟨L1, w1, d1, st1, tg1, hi1, mi1, go1⟩ := u
      obtain ⟨f1, n1, hf1, hP1, hK1, hD1⟩ := hB
      rw [ht] at hP1
      cases hw
      obtain ⟨f_57, ef_57⟩ : ∃ z, z = f1 := ⟨_, rfl⟩
      rw [← ef_57] at hf1 hP1 hD1
      clear ef_57 f1
      obtain ⟨n_58, en_58⟩ : ∃ z, z = n1 := ⟨_, rfl⟩
      rw [← en_58] at hf1 hP1 hD1
      clear en_58 n1
      have hfm_59 := hf1
      obtain ⟨hP, hD⟩ := va_join (wr := []) (w1 := (cm q ca C f_57 n_58 w (ap_cd d (ap_old (L 1))) (ap_cs w d st (ap_old (L 1))) tg hi mi (go + 1))) hP hD [0, 1, 2, 3, 4, 5] [] rfl rfl (by decide) (by decide) hk1 hFc hP1 hD1
      generalize H1 = H at hP hS ⊢
      replace hP : va_P (dC, dI) vwCl (cm q ca C f_57 n_58 w (ap_cd d (ap_old (L 1))) (ap_cs w d st (ap_old (L 1))) tg hi mi (go + 1)) H := hP
      replace hD : va_D A (cm q ca C f_57 n_58 w (ap_cd d (ap_old (L 1))) (ap_cs w d st (ap_old (L 1))) tg hi mi (go + 1)) := hD
      have hfm_59d : fm_ok f_57 n_58 (ap_dr L 1) := by rw [ap_leave_1 hwo9 (by decide)] at hfm_59; exact hfm_59
      refine lv_goto (tgt := 131) hx hb dX2_comeNew_68 (by decide) ?_
      have hcA9 : (L 1).length = C := by omega
      have eun9 : ap_un w C tg x (L, d, st, go) = (ap_dr L 1, ap_cd d (ap_old (L 1)), ap_cs w d st (ap_old (L 1)), go + 1) := ap_un_A (S := (L, d, st, go)) c_17 hcA9
      have hun9 := ap_un_ok (w := w) (d := d) (st := st) (go := go) hok hw0
      have hfin9 : (va_up (ap_dr L 1) 1 (x :: (ap_dr L 1) 1), w, ap_cd d (ap_old (L 1)), ap_cs w d st (ap_old (L 1)), tg, hi, mi, go + 1) = (va_up (ap_un w C tg x (L, d, st, go)).1 1 (x :: (ap_un w C tg x (L, d, st, go)).1 1), w, (ap_un w C tg x (L, d, st, go)).2.1, (ap_un w C tg x (L, d, st, go)).2.2.1, tg, hi, mi, (ap_un w C tg x (L, d, st, go)).2.2.2) := by rw [eun9]
      rw [eun9] at hun9
      obtain ⟨hui9, huw9, huz9, -, -⟩ := hun9
      try dsimp only at hui9 huw9 huz9
      refine lv_aload_n hx hb dX2_comeNew_131 rfl (lv_at hl 0 rfl) ?_
      refine lv_iload_n hx hb dX2_comeNew_132 rfl (lv_at hl 1 rfl) ?_
      refine lv_iconst (v := nI 1) hx hb dX2_comeNew_133 (by decide) ?_
      have huz8 : ap_tot (ap_dr L 1) ≤ 48 := by omega
      have hPc := hP.sub (ws' := (cm q ca C f_57 n_58 w (ap_cd d (ap_old (L 1))) (ap_cs w d st (ap_old (L 1))) tg hi mi (go + 1))) [0, 1, 2, 3, 4, 5] rfl
      have hDc := hD.sub (ws' := (cm q ca C f_57 n_58 w (ap_cd d (ap_old (L 1))) (ap_cs w d st (ap_old (L 1))) tg hi mi (go + 1))) [0, 1, 2, 3, 4, 5] (by decide) rfl
      have hKc := hK.sub (tys' := (km ca)) [0, 1, 2, 3, 4] rfl
      have hFc := va_free (wc := (cm q ca C f_57 n_58 w (ap_cd d (ap_old (L 1))) (ap_cs w d st (ap_old (L 1))) tg hi mi (go + 1))) hD hS hA [0, 1, 2, 3, 4, 5] rfl
      refine va_callv (va_runV (As := [.int x, .int (nI 1)]) (rest := []) ⟨hx, hb, hml, hown, hts⟩ (c_M_come l dC dI q ca C f_57 n_58 w (ap_cd d (ap_old (L 1))) (ap_cs w d st (ap_old (L 1))) tg hi mi (go + 1) (ap_dr L 1) x 1 H.size hfm_59d hui9 huz8 (by decide) (by decide)) (cwV 2 hts gX2_comeNew_X2_come rfl rfl rfl (by decide +kernel) ⟨Nat.le_of_ble_eq_true rfl, Nat.le_of_ble_eq_true rfl⟩) ⟨fun a U g mk q => by obtain ⟨q0, q1, qP, qK, qD⟩ := q; exact ⟨q0, q1, qP, va_K.moved (u := U) (U := U.calling g mk a) (Vm.Alike.refl U.vm) qK, qD⟩, va_recv hKc hPc (ci := 2) (q0 := 0) rfl rfl, fun U hU hW => ⟨rfl, by rw [hU], by rw [hU]; exact hPc, va_K.moved hW.alike hKc, hDc.weaken (fun _ _ _ _ => trivial)⟩⟩ rfl rfl hl.1 rfl (lv_room (Nat.le_of_ble_eq_true rfl)) dX2_comeNew_134 ⟨Nat.le_of_ble_eq_true rfl, Nat.le_of_ble_eq_true rfl⟩) hS (fun q _ h => hFc q h) hFc (fun u t H1 locs ht hvm hw hB hz1 hk1 hS => ?_)
      obtain ⟨L1, w1, d1, st1, tg1, hi1, mi1, go1⟩ := u
      obtain ⟨f1, n1, hf1, hP1, hK1, hD1⟩ := hB
      rw [ht] at hP1
      cases hw
      obtain ⟨f_60, ef_60⟩ : ∃ z, z = f1 := ⟨_, rfl⟩
      rw [← ef_60] at hf1 hP1 hD1
      clear ef_60 f1
      obtain ⟨n_61, en_61⟩ : ∃ z, z = n1 := ⟨_, rfl⟩
      rw [← en_61] at hf1 hP1 hD1
      clear en_61 n1
      have hfm_62 := hf1
      obtain ⟨hP, hD⟩ := va_join (wr := []) (w1 := (cm q ca C f_60 n_61 w (ap_cd d (ap_old (L 1))) (ap_cs w d st (ap_old (L 1))) tg hi mi (go + 1))) hP hD [0, 1, 2, 3, 4, 5] [] rfl rfl (by decide) (by decide) hk1 hFc hP1 hD1
      generalize H1 = H at hP hS ⊢
      replace hP : va_P (dC, dI) vwCl (cm q ca C f_60 n_61 w (ap_cd d (ap_old (L 1))) (ap_cs w d st (ap_old (L 1))) tg hi mi (go + 1)) H := hP
      replace hD : va_D A (cm q ca C f_60 n_61 w (ap_cd d (ap_old (L 1))) (ap_cs w d st (ap_old (L 1))) tg hi mi (go + 1)) := hD
      have hfm_62d : fm_ok f_60 n_61 (va_up (ap_dr L 1) 1 (x :: (ap_dr L 1) 1)) := by rw [ap_leave_0 huw9] at hfm_62; exact hfm_62
      exact W.vret hx hb hr (fun t ht hW => ⟨⟨(va_up (ap_dr L 1) 1 (x :: (ap_dr L 1) 1), w, ap_cd d (ap_old (L 1)), ap_cs w d st (ap_old (L 1)), tg, hi, mi, go + 1), rfl, hfin9, f_60, n_61, hfm_62d, by rw [ht]; exact hP, va_K.moved hW.alike hK, hD⟩, hS.F ht⟩) hS.2.2 dX2_comeNew_137
    · skip
      replace c_30 : ¬ (C ≤ ((L 1).length)) := fun h9 => c_30 ((nI_leI (a := C) (b := (L 1).length) (by omega) (by omega)).mpr h9)
      refine lv_aload_n hx hb dX2_comeNew_33 rfl (lv_at hl 0 rfl) ?_
      refine lv_aload_n hx hb dX2_comeNew_34 rfl (lv_at hl 0 rfl) ?_
      refine lv_iconst (v := nI 3) hx hb dX2_comeNew_35 (by decide) ?_
      have hne9 : L 3 ≠ [] := ap_ne (by omega)
      have hx64 : vp_in (ap_old (L 3)) 64 := ap_old_in hI hne9
      have hwo9 : ap_wl L (ap_old (L 3)) = 3 := ap_wl_of hI (ap_old_mem hne9)
      have hPc := hP.sub (ws' := (cm q ca C f n w d st tg hi mi go)) [0, 1, 2, 3, 4, 5] rfl
      have hDc := hD.sub (ws' := (cm q ca C f n w d st tg hi mi go)) [0, 1, 2, 3, 4, 5] (by decide) rfl
      have hKc := hK.sub (tys' := (km ca)) [0, 1, 2, 3, 4] rfl
      have hFc := va_free (wc := (cm q ca C f n w d st tg hi mi go)) hD hS hA [0, 1, 2, 3, 4, 5] rfl
      refine va_calli (va_runV (As := [.int (nI 3)]) (rest := [.ref (q 0)]) ⟨hx, hb, hml, hown, hts⟩ (c_M_old l dC dI q ca C f n w d st tg hi mi go L 3 H.size hfm hI hz (by decide) (by decide) hne9) (cwV 1 hts gX2_comeNew_X2_old rfl rfl rfl (by decide +kernel) ⟨Nat.le_of_ble_eq_true rfl, Nat.le_of_ble_eq_true rfl⟩) ⟨fun a U g mk q => by obtain ⟨q0, q1, qP, qK, qD⟩ := q; exact ⟨q0, q1, qP, va_K.moved (u := U) (U := U.calling g mk a) (Vm.Alike.refl U.vm) qK, qD⟩, va_recv hKc hPc (ci := 2) (q0 := 0) rfl rfl, fun U hU hW => ⟨rfl, by rw [hU], by rw [hU]; exact hPc, va_K.moved hW.alike hKc, hDc.weaken (fun _ _ _ _ => trivial)⟩⟩ rfl rfl hl.1 rfl (lv_room (Nat.le_of_ble_eq_true rfl)) dX2_comeNew_36 ⟨Nat.le_of_ble_eq_true rfl, Nat.le_of_ble_eq_true rfl⟩) hS (fun q _ h => hFc q h) hFc (fun r u t H1 locs ht hvm hw hB hz1 hk1 hS => ?_)
      obtain ⟨L1, w1, d1, st1, tg1, hi1, mi1, go1⟩ := u
      obtain ⟨f1, n1, hf1, hP1, hK1, hD1⟩ := hB
      rw [ht] at hP1
      obtain ⟨hr9, hw⟩ := hw
      cases hw
      obtain ⟨f_63, ef_63⟩ : ∃ z, z = f1 := ⟨_, rfl⟩
      rw [← ef_63] at hf1 hP1 hD1
      clear ef_63 f1
      obtain ⟨n_64, en_64⟩ : ∃ z, z = n1 := ⟨_, rfl⟩
      rw [← en_64] at hf1 hP1 hD1
      clear en_64 n1
      have hfm_65 := hf1
      obtain ⟨hP, hD⟩ := va_join (wr := []) (w1 := (cm q ca C f_63 n_64 w d st tg hi mi go)) hP hD [0, 1, 2, 3, 4, 5] [] rfl rfl (by decide) (by decide) hk1 hFc hP1 hD1
      generalize H1 = H at hP hS ⊢
      replace hP : va_P (dC, dI) vwCl (cm q ca C f_63 n_64 w d st tg hi mi go) H := hP
      replace hD : va_D A (cm q ca C f_63 n_64 w d st tg hi mi go) := hD
      subst hr9
      have hPc := hP.sub (ws' := (cm q ca C f_63 n_64 w d st tg hi mi go)) [0, 1, 2, 3, 4, 5] rfl
      have hDc := hD.sub (ws' := (cm q ca C f_63 n_64 w d st tg hi mi go)) [0, 1, 2, 3, 4, 5] (by decide) rfl
      have hKc := hK.sub (tys' := (km ca)) [0, 1, 2, 3, 4] rfl
      have hFc := va_free (wc := (cm q ca C f_63 n_64 w d st tg hi mi go)) hD hS hA [0, 1, 2, 3, 4, 5] rfl
      refine va_callv (va_runV (As := [.int (ap_old (L 3))]) (rest := []) ⟨hx, hb, hml, hown, hts⟩ (c_M_leave l dC dI q ca C f_63 n_64 w d st tg hi mi go L (ap_old (L 3)) H.size hfm_65 hI hz) (cwV 1 hts gX2_comeNew_X2_leave rfl rfl rfl (by decide +kernel) ⟨Nat.le_of_ble_eq_true rfl, Nat.le_of_ble_eq_true rfl⟩) ⟨fun a U g mk q => by obtain ⟨q0, q1, qP, qK, qD⟩ := q; exact ⟨q0, q1, qP, va_K.moved (u := U) (U := U.calling g mk a) (Vm.Alike.refl U.vm) qK, qD⟩, va_recv hKc hPc (ci := 2) (q0 := 0) rfl rfl, fun U hU hW => ⟨rfl, by rw [hU], by rw [hU]; exact hPc, va_K.moved hW.alike hKc, hDc.weaken (fun _ _ _ _ => trivial)⟩⟩ rfl rfl hl.1 rfl (lv_room (Nat.le_of_ble_eq_true rfl)) dX2_comeNew_39 ⟨Nat.le_of_ble_eq_true rfl, Nat.le_of_ble_eq_true rfl⟩) hS (fun q _ h => hFc q h) hFc (fun u t H1 locs ht hvm hw hB hz1 hk1 hS => ?_)
      obtain ⟨L1, w1, d1, st1, tg1, hi1, mi1, go1⟩ := u
      obtain ⟨f1, n1, hf1, hP1, hK1, hD1⟩ := hB
      rw [ht] at hP1
      cases hw
      obtain ⟨f_66, ef_66⟩ : ∃ z, z = f1 := ⟨_, rfl⟩
      rw [← ef_66] at hf1 hP1 hD1
      clear ef_66 f1
      obtain ⟨n_67, en_67⟩ : ∃ z, z = n1 := ⟨_, rfl⟩
      rw [← en_67] at hf1 hP1 hD1
      clear en_67 n1
      have hfm_68 := hf1
      obtain ⟨hP, hD⟩ := va_join (wr := []) (w1 := (cm q ca C f_66 n_67 w d st tg hi mi go)) hP hD [0, 1, 2, 3, 4, 5] [] rfl rfl (by decide) (by decide) hk1 hFc hP1 hD1
      generalize H1 = H at hP hS ⊢
      replace hP : va_P (dC, dI) vwCl (cm q ca C f_66 n_67 w d st tg hi mi go) H := hP
      replace hD : va_D A (cm q ca C f_66 n_67 w d st tg hi mi go) := hD
      have hfm_68d : fm_ok f_66 n_67 (ap_dr L 3) := by rw [ap_leave_1 hwo9 (by decide)] at hfm_68; exact hfm_68
      refine lv_aload_n hx hb dX2_comeNew_42 rfl (lv_at hl 0 rfl) ?_
      refine lv_iload_n hx hb dX2_comeNew_43 rfl (lv_at hl 1 rfl) ?_
      have hcB9 : ¬ (L 1).length = C := by omega
      have eun9 : ap_un w C tg x (L, d, st, go) = ((ap_mk w tg x (ap_dr L 3, d, st, go)).1, (ap_mk w tg x (ap_dr L 3, d, st, go)).2.1, (ap_mk w tg x (ap_dr L 3, d, st, go)).2.2.1, (ap_mk w tg x (ap_dr L 3, d, st, go)).2.2.2) := ap_un_B (S := (L, d, st, go)) c_17 hcB9
      have hPc := hP.sub (ws' := (cm q ca C f_66 n_67 w d st tg hi mi go)) [0, 1, 2, 3, 4, 5] rfl
      have hDc := hD.sub (ws' := (cm q ca C f_66 n_67 w d st tg hi mi go)) [0, 1, 2, 3, 4, 5] (by decide) rfl
      have hKc := hK.sub (tys' := (km ca)) [0, 1, 2, 3, 4] rfl
      have hFc := va_free (wc := (cm q ca C f_66 n_67 w d st tg hi mi go)) hD hS hA [0, 1, 2, 3, 4, 5] rfl
      refine va_callv (va_runV (As := [.int x]) (rest := []) ⟨hx, hb, hml, hown, hts⟩ (c_M_makeRoom l dC dI q ca C f_66 n_67 w d st tg hi mi go (ap_dr L 3) x H.size hfm_68d (ap_inv_dr hI 3) (ap_tot_dr hz 3) (by omega)) (cwV 1 hts gX2_comeNew_X2_makeRoom rfl rfl rfl (by decide +kernel) ⟨Nat.le_of_ble_eq_true rfl, Nat.le_of_ble_eq_true rfl⟩) ⟨fun a U g mk q => by obtain ⟨q0, q1, qP, qK, qD⟩ := q; exact ⟨q0, q1, qP, va_K.moved (u := U) (U := U.calling g mk a) (Vm.Alike.refl U.vm) qK, qD⟩, va_recv hKc hPc (ci := 2) (q0 := 0) rfl rfl, fun U hU hW => ⟨rfl, by rw [hU], by rw [hU]; exact hPc, va_K.moved hW.alike hKc, hDc.weaken (fun _ _ _ _ => trivial)⟩⟩ rfl rfl hl.1 rfl (lv_room (Nat.le_of_ble_eq_true rfl)) dX2_comeNew_44 ⟨Nat.le_of_ble_eq_true rfl, Nat.le_of_ble_eq_true rfl⟩) hS (fun q _ h => hFc q h) hFc (fun u t H1 locs ht hvm hw hB hz1 hk1 hS => ?_)
      obtain ⟨L1, w1, d1, st1, tg1, hi1, mi1, go1⟩ := u
      obtain ⟨f1, n1, hf1, hP1, hK1, hD1⟩ := hB
      rw [ht] at hP1
      obtain ⟨f_69, ef_69⟩ : ∃ z, z = f1 := ⟨_, rfl⟩
      rw [← ef_69] at hf1 hP1 hD1
      clear ef_69 f1
      obtain ⟨n_70, en_70⟩ : ∃ z, z = n1 := ⟨_, rfl⟩
      rw [← en_70] at hf1 hP1 hD1
      clear en_70 n1
      have hfm_71 := hf1
      replace hw := hw.symm
      simp only [ap_tu, Prod.mk.injEq] at hw
      obtain ⟨rfl, rfl, rfl, rfl, rfl, rfl, rfl, rfl⟩ := hw
      obtain ⟨hP, hD⟩ := va_join (wr := []) (w1 := (cm q ca C f_69 n_70 w ((ap_mk w tg x (ap_dr L 3, d, st, go)).2.1) ((ap_mk w tg x (ap_dr L 3, d, st, go)).2.2.1) tg hi mi ((ap_mk w tg x (ap_dr L 3, d, st, go)).2.2.2))) hP hD [0, 1, 2, 3, 4, 5] [] rfl rfl (by decide) (by decide) hk1 hFc hP1 hD1
      generalize H1 = H at hP hS ⊢
      replace hP : va_P (dC, dI) vwCl (cm q ca C f_69 n_70 w ((ap_mk w tg x (ap_dr L 3, d, st, go)).2.1) ((ap_mk w tg x (ap_dr L 3, d, st, go)).2.2.1) tg hi mi ((ap_mk w tg x (ap_dr L 3, d, st, go)).2.2.2)) H := hP
      replace hD : va_D A (cm q ca C f_69 n_70 w ((ap_mk w tg x (ap_dr L 3, d, st, go)).2.1) ((ap_mk w tg x (ap_dr L 3, d, st, go)).2.2.1) tg hi mi ((ap_mk w tg x (ap_dr L 3, d, st, go)).2.2.2)) := hD
      refine lv_goto (tgt := 131) hx hb dX2_comeNew_47 (by decide) ?_
      have hun9 := ap_un_ok (w := w) (d := d) (st := st) (go := go) hok hw0
      have hfin9 : (va_up ((ap_mk w tg x (ap_dr L 3, d, st, go)).1) 1 (x :: ((ap_mk w tg x (ap_dr L 3, d, st, go)).1) 1), w, (ap_mk w tg x (ap_dr L 3, d, st, go)).2.1, (ap_mk w tg x (ap_dr L 3, d, st, go)).2.2.1, tg, hi, mi, (ap_mk w tg x (ap_dr L 3, d, st, go)).2.2.2) = (va_up (ap_un w C tg x (L, d, st, go)).1 1 (x :: (ap_un w C tg x (L, d, st, go)).1 1), w, (ap_un w C tg x (L, d, st, go)).2.1, (ap_un w C tg x (L, d, st, go)).2.2.1, tg, hi, mi, (ap_un w C tg x (L, d, st, go)).2.2.2) := by rw [eun9]
      rw [eun9] at hun9
      obtain ⟨hui9, huw9, huz9, -, -⟩ := hun9
      try dsimp only at hui9 huw9 huz9
      refine lv_aload_n hx hb dX2_comeNew_131 rfl (lv_at hl 0 rfl) ?_
      refine lv_iload_n hx hb dX2_comeNew_132 rfl (lv_at hl 1 rfl) ?_
      refine lv_iconst (v := nI 1) hx hb dX2_comeNew_133 (by decide) ?_
      have huz8 : ap_tot ((ap_mk w tg x (ap_dr L 3, d, st, go)).1) ≤ 48 := by omega
      have hPc := hP.sub (ws' := (cm q ca C f_69 n_70 w ((ap_mk w tg x (ap_dr L 3, d, st, go)).2.1) ((ap_mk w tg x (ap_dr L 3, d, st, go)).2.2.1) tg hi mi ((ap_mk w tg x (ap_dr L 3, d, st, go)).2.2.2))) [0, 1, 2, 3, 4, 5] rfl
      have hDc := hD.sub (ws' := (cm q ca C f_69 n_70 w ((ap_mk w tg x (ap_dr L 3, d, st, go)).2.1) ((ap_mk w tg x (ap_dr L 3, d, st, go)).2.2.1) tg hi mi ((ap_mk w tg x (ap_dr L 3, d, st, go)).2.2.2))) [0, 1, 2, 3, 4, 5] (by decide) rfl
      have hKc := hK.sub (tys' := (km ca)) [0, 1, 2, 3, 4] rfl
      have hFc := va_free (wc := (cm q ca C f_69 n_70 w ((ap_mk w tg x (ap_dr L 3, d, st, go)).2.1) ((ap_mk w tg x (ap_dr L 3, d, st, go)).2.2.1) tg hi mi ((ap_mk w tg x (ap_dr L 3, d, st, go)).2.2.2))) hD hS hA [0, 1, 2, 3, 4, 5] rfl
      refine va_callv (va_runV (As := [.int x, .int (nI 1)]) (rest := []) ⟨hx, hb, hml, hown, hts⟩ (c_M_come l dC dI q ca C f_69 n_70 w ((ap_mk w tg x (ap_dr L 3, d, st, go)).2.1) ((ap_mk w tg x (ap_dr L 3, d, st, go)).2.2.1) tg hi mi ((ap_mk w tg x (ap_dr L 3, d, st, go)).2.2.2) ((ap_mk w tg x (ap_dr L 3, d, st, go)).1) x 1 H.size hfm_71 hui9 huz8 (by decide) (by decide)) (cwV 2 hts gX2_comeNew_X2_come rfl rfl rfl (by decide +kernel) ⟨Nat.le_of_ble_eq_true rfl, Nat.le_of_ble_eq_true rfl⟩) ⟨fun a U g mk q => by obtain ⟨q0, q1, qP, qK, qD⟩ := q; exact ⟨q0, q1, qP, va_K.moved (u := U) (U := U.calling g mk a) (Vm.Alike.refl U.vm) qK, qD⟩, va_recv hKc hPc (ci := 2) (q0 := 0) rfl rfl, fun U hU hW => ⟨rfl, by rw [hU], by rw [hU]; exact hPc, va_K.moved hW.alike hKc, hDc.weaken (fun _ _ _ _ => trivial)⟩⟩ rfl rfl hl.1 rfl (lv_room (Nat.le_of_ble_eq_true rfl)) dX2_comeNew_134 ⟨Nat.le_of_ble_eq_true rfl, Nat.le_of_ble_eq_true rfl⟩) hS (fun q _ h => hFc q h) hFc (fun u t H1 locs ht hvm hw hB hz1 hk1 hS => ?_)
      obtain ⟨L1, w1, d1, st1, tg1, hi1, mi1, go1⟩ := u
      obtain ⟨f1, n1, hf1, hP1, hK1, hD1⟩ := hB
      rw [ht] at hP1
      cases hw
      obtain ⟨f_72, ef_72⟩ : ∃ z, z = f1 := ⟨_, rfl⟩
      rw [← ef_72] at hf1 hP1 hD1
      clear ef_72 f1
      obtain ⟨n_73, en_73⟩ : ∃ z, z = n1 := ⟨_, rfl⟩
      rw [← en_73] at hf1 hP1 hD1
      clear en_73 n1
      have hfm_74 := hf1
      obtain ⟨hP, hD⟩ := va_join (wr := []) (w1 := (cm q ca C f_72 n_73 w ((ap_mk w tg x (ap_dr L 3, d, st, go)).2.1) ((ap_mk w tg x (ap_dr L 3, d, st, go)).2.2.1) tg hi mi ((ap_mk w tg x (ap_dr L 3, d, st, go)).2.2.2))) hP hD [0, 1, 2, 3, 4, 5] [] rfl rfl (by decide) (by decide) hk1 hFc hP1 hD1
      generalize H1 = H at hP hS ⊢
      replace hP : va_P (dC, dI) vwCl (cm q ca C f_72 n_73 w ((ap_mk w tg x (ap_dr L 3, d, st, go)).2.1) ((ap_mk w tg x (ap_dr L 3, d, st, go)).2.2.1) tg hi mi ((ap_mk w tg x (ap_dr L 3, d, st, go)).2.2.2)) H := hP
      replace hD : va_D A (cm q ca C f_72 n_73 w ((ap_mk w tg x (ap_dr L 3, d, st, go)).2.1) ((ap_mk w tg x (ap_dr L 3, d, st, go)).2.2.1) tg hi mi ((ap_mk w tg x (ap_dr L 3, d, st, go)).2.2.2)) := hD
      have hfm_74d : fm_ok f_72 n_73 (va_up ((ap_mk w tg x (ap_dr L 3, d, st, go)).1) 1 (x :: ((ap_mk w tg x (ap_dr L 3, d, st, go)).1) 1)) := by rw [ap_leave_0 huw9] at hfm_74; exact hfm_74
      exact W.vret hx hb hr (fun t ht hW => ⟨⟨(va_up ((ap_mk w tg x (ap_dr L 3, d, st, go)).1) 1 (x :: ((ap_mk w tg x (ap_dr L 3, d, st, go)).1) 1), w, (ap_mk w tg x (ap_dr L 3, d, st, go)).2.1, (ap_mk w tg x (ap_dr L 3, d, st, go)).2.2.1, tg, hi, mi, (ap_mk w tg x (ap_dr L 3, d, st, go)).2.2.2), rfl, hfin9, f_72, n_73, hfm_74d, by rw [ht]; exact hP, va_K.moved hW.alike hK, hD⟩, hS.F ht⟩) hS.2.2 dX2_comeNew_137
