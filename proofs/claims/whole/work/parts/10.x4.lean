-- THE CLASS, fourth part (laid by wip/gen/xx4.py)
theorem ap_rq_hit {C : Nat} {a : Int32} {L : Nat → List Int32} {w d st : Nat → Int32} {t : Nat} {hi mi go : Int32} (h : ap_wl L a = 1 ∨ ap_wl L a = 2) : ap_rq C a (L, w, d, st, t, hi, mi, go) = (ap_mv L a (ap_wl L a) 2, w, d, st, t, hi + 1, mi, go) := by
  unfold ap_rq
  dsimp only
  rw [if_pos h]
theorem ap_rq_new {C : Nat} {a : Int32} {L : Nat → List Int32} {w d st : Nat → Int32} {t : Nat} {hi mi go : Int32} (h : ap_wl L a = 0) : ap_rq C a (L, w, d, st, t, hi, mi, go) = (va_up (ap_un w C t a (L, d, st, go)).1 1 (a :: (ap_un w C t a (L, d, st, go)).1 1), upd w a.toNatClampNeg ((ap_un w C t a (L, d, st, go)).2.2.1 a.toNatClampNeg), upd (ap_un w C t a (L, d, st, go)).2.1 a.toNatClampNeg 0, (ap_un w C t a (L, d, st, go)).2.2.1, t, hi, mi + 1, (ap_un w C t a (L, d, st, go)).2.2.2) := by
  unfold ap_rq
  dsimp only
  rw [if_neg (by omega), if_pos h]
theorem ap_rq_old {C : Nat} {a : Int32} {L : Nat → List Int32} {w d st : Nat → Int32} {t : Nat} {hi mi go : Int32} {k : Nat} (hk : ap_wl L a = k) (h : k = 3 ∨ k = 4) : ap_rq C a (L, w, d, st, t, hi, mi, go) = (ap_mv (ap_mk w (ap_tg L C t k) a (L, d, st, go)).1 a k 2, upd w a.toNatClampNeg ((ap_mk w (ap_tg L C t k) a (L, d, st, go)).2.2.1 a.toNatClampNeg), upd (ap_mk w (ap_tg L C t k) a (L, d, st, go)).2.1 a.toNatClampNeg 0, (ap_mk w (ap_tg L C t k) a (L, d, st, go)).2.2.1, ap_tg L C t k, hi, mi + 1, (ap_mk w (ap_tg L C t k) a (L, d, st, go)).2.2.2) := by
  subst hk
  unfold ap_rq
  dsimp only
  rw [if_neg (by omega), if_neg (by omega)]
theorem ap_tot_mk {w : Nat → Int32} {t : Nat} {a : Int32} {S : ap_T} (hI : ap_inv S.1) : ap_tot (ap_mk w t a S).1 = ap_tot S.1 := by
  obtain ⟨f1, f2, f3, f4, f5⟩ := ap_mk_facts (w := w) (t := t) (a := a) hI
  unfold ap_tot
  omega
def ap_rd (C : Nat) (x : Int32) (u : ap_U) : Int32 × ap_U := if x < 0 ∨ nI 64 ≤ x then (0, u) else ((ap_rq C x u).2.1 x.toNatClampNeg, ap_rq C x u)
def ap_pw (x y : Int32) (u : ap_U) : ap_U := (u.1, upd u.2.1 x.toNatClampNeg y, upd u.2.2.1 x.toNatClampNeg 1, u.2.2.2)
def ap_wr (C : Nat) (x y : Int32) (u : ap_U) : Int32 × ap_U := if x < 0 ∨ nI 64 ≤ x then (0, u) else (1, ap_pw x y (ap_rq C x u))
theorem ap_eta (u : ap_U) : u = (u.1, u.2.1, u.2.2.1, u.2.2.2.1, u.2.2.2.2.1, u.2.2.2.2.2.1, u.2.2.2.2.2.2.1, u.2.2.2.2.2.2.2) := rfl
abbrev ap_D : Type := (Nat → Int32) × (Nat → Int32) × Int32
def ap_f1 (w : Nat → Int32) (i : Nat) (D : ap_D) : ap_D := (ap_cd D.1 (nI i), ap_cs w D.1 D.2.1 (nI i), if D.1 i = 0 then D.2.2 else D.2.2 + 1)
def ap_fl (w : Nat → Int32) (D : ap_D) : Nat → ap_D
  | 0 => D
  | i + 1 => ap_f1 w i (ap_fl w D i)
theorem ap_f1_0 {w : Nat → Int32} {i : Nat} {D : ap_D} (hi : i < 64) (h : D.1 i = 0) : ap_f1 w i D = D := by
  have h' : D.1 (nI i).toNatClampNeg = 0 := by rw [nI_clamp (by omega)]; exact h
  unfold ap_f1
  rw [ap_cd_0 h', ap_cs_0 h', if_pos h]
theorem ap_f1_1 {w : Nat → Int32} {i : Nat} {D : ap_D} (hi : i < 64) (h : ¬ D.1 i = 0) : ap_f1 w i D = (upd D.1 i 0, upd D.2.1 i (w i), D.2.2 + 1) := by
  have h' : ¬ D.1 (nI i).toNatClampNeg = 0 := by rw [nI_clamp (by omega)]; exact h
  unfold ap_f1
  rw [ap_cs_1 h', if_neg h]
  unfold ap_cd
  rw [nI_clamp (by omega)]
def ap_z (i : Nat) (f : Nat → Int32) : Nat → Int32 := fun j => if j < i then 0 else f j
theorem ap_z_0 {f : Nat → Int32} : ap_z 0 f = f := by
  funext j
  unfold ap_z
  rw [if_neg (Nat.not_lt_zero j)]
theorem ap_z_s {f : Nat → Int32} {i : Nat} : upd (ap_z i f) i 0 = ap_z (i + 1) f := by
  funext j
  by_cases e : j = i
  · subst e
    rw [pk_us]
    unfold ap_z
    rw [if_pos (by omega)]
  · rw [pk_un e]
    unfold ap_z
    by_cases h : j < i
    · rw [if_pos h, if_pos (by omega)]
    · rw [if_neg h, if_neg (by omega)]
set_option maxHeartbeats 4000000 in
set_option maxRecDepth 100000 in
theorem c_X_request (l : Launch) (dC : Nat → ClassId) (dI : Nat → Nat → Nat) (q : Nat → Nat) (ca : Nat → ClassId) (C : Nat) (L : Nat → List Int32) (f : Nat → Nat → Int32) (w d st : Nat → Int32) (tg : Nat) (hi mi go : Int32) (x : Int32) (sz : Nat) (hf : fx_ok f L) (hok : ap_ok C tg L) (hx64 : vp_in x 64) : Met l yX1_request wsX1_request ({ frames := 5, cells := 0, slots := 0, locals := 151 }) (va_Pc [.ref (q 0), .int x] (fun U => U.heap.size = sz ∧ va_P (dC, dI) vwCl (cx q ca C L f w d st tg hi mi go) U.heap ∧ va_K (dC, dI) vwCl (kx ca) U ∧ va_D (fun _ => True) (cx q ca C L f w d st tg hi mi go) ∧ va_Nw (.methodLinkNest RX0 23 yX1_isAddress "ArcCache") U)) (va_Qv (fun (u : ap_U) => u = ap_rq C x (L, w, d, st, tg, hi, mi, go)) (at_X dC dI (va_A (cx q ca C L f w d st tg hi mi go) sz) q ca C) (va_A (cx q ca C L f w d st tg hi mi go) sz)) 0 0 (va_A (cx q ca C L f w d st tg hi mi go) sz) := by
  refine Met.ofW (cc := cX1_request) (maxL := 3) (ret := none) (by decide) rfl ?_
  intro p e s m args below meth c s₁ B hml hv
  obtain ⟨rfl, hsz, hP, hK, hD0, hN⟩ := hv
  have hx := B.exec
  have hb := B.bytes
  have hr := B.returns
  have hts := atoms_spec (ws := wsX1_request) B.pre
  have hown : s.vm.findClass RX1 = some m.cls := findClass_of_methodNamed B.named
  have hlocks := B.notSynchronized
  have hwX1 : ∀ w ∈ u_ws RX1 TX1 12, w ∈ wsX1_request := by decide +kernel
  subst hsz
  have hD := hD0.self (sz := s.heap.size)
  generalize hAe : va_A (cx q ca C L f w d st tg hi mi go) s.heap.size = A at hD ⊢
  have hA : ∀ q : Nat, s.heap.size ≤ q → A q := fun q h => by rw [← hAe]; exact Or.inr h
  have hS0 : ∀ H, s.heap = H → va_S A s.heap H [] := fun H h => by subst h; exact va_S.rf
  have hl := lv_entry ([.ref (q 0), .int x]) (n := 3) (Nat.le_of_ble_eq_true rfl)
  rw [lg_entry_eq]
  generalize (lg_sl ([.ref (q 0), .int x]) ++ List.replicate (3 - (lg_sl ([.ref (q 0), .int x])).length) Slot.unset).toArray = ls at hl ⊢
  have hl : lv_has ls 3 [(0, .ref (q 0)), (1, .int x)] := hl
  generalize hHe : s.heap = H at hP ⊢
  have hS := hS0 H hHe
  obtain ⟨hI, hC1, hC, htg, hs1, hs2, hs3⟩ := id hok
  have hz : ap_tot L ≤ 48 := by omega
  have z1 : (L 1).length ≤ 48 := by unfold ap_tot at hz; omega
  have z2 : (L 2).length ≤ 48 := by unfold ap_tot at hz; omega
  have z3 : (L 3).length ≤ 48 := by unfold ap_tot at hz; omega
  have z4 : (L 4).length ≤ 48 := by unfold ap_tot at hz; omega
  have hwle9 := ap_wl_le L x
  refine lv_aload_n hx hb dX1_request_0 rfl (lv_at hl 0 rfl) ?_
  refine lv_iload_n hx hb dX1_request_1 rfl (lv_at hl 1 rfl) ?_
  have hPc := hP.sub (ws' := (cx q ca C L f w d st tg hi mi go)) [0, 1, 2, 3, 4, 5, 6, 7, 8, 9, 10, 11] rfl
  have hDc := hD.sub (ws' := (cx q ca C L f w d st tg hi mi go)) [0, 1, 2, 3, 4, 5, 6, 7, 8, 9, 10, 11] (by decide) rfl
  have hKc := hK.sub (tys' := (kx ca)) [0, 1, 2, 3, 4, 5, 6] rfl
  have hFc := va_free (wc := (cx q ca C L f w d st tg hi mi go)) hD hS hA [0, 1, 2, 3, 4, 5, 6, 7, 8, 9, 10, 11] rfl
  refine va_calli (va_runV (As := [.int x]) (rest := []) ⟨hx, hb, hml, hown, hts⟩ (c_X_whichList l dC dI q ca C L f w d st tg hi mi go x H.size hf hI hz) (cwV 1 hts gX1_request_X1_whichList rfl rfl rfl (by decide +kernel) ⟨Nat.le_of_ble_eq_true rfl, Nat.le_of_ble_eq_true rfl⟩) ⟨fun a U g mk q => by obtain ⟨q0, q1, qP, qK, qD⟩ := q; exact ⟨q0, q1, qP, va_K.moved (u := U) (U := U.calling g mk a) (Vm.Alike.refl U.vm) qK, qD⟩, va_recv hKc hPc (ci := 1) (q0 := 0) rfl rfl, fun U hU hW => ⟨rfl, by rw [hU], by rw [hU]; exact hPc, va_K.moved hW.alike hKc, hDc.weaken (fun _ _ _ _ => trivial)⟩⟩ rfl rfl hl.1 rfl (lv_room (Nat.le_of_ble_eq_true rfl)) dX1_request_2 ⟨Nat.le_of_ble_eq_true rfl, Nat.le_of_ble_eq_true rfl⟩) hS (fun q _ h => hFc q h) hFc (fun r u t H1 locs ht hvm hw hB hz1 hk1 hS => ?_)
  obtain ⟨L1, w1, d1, st1, tg1, hi1, mi1, go1⟩ := u
  obtain ⟨f1, hf1, hP1, hK1, hD1⟩ := hB
  rw [ht] at hP1
  obtain ⟨hr9, hu9⟩ := hw
  subst hr9
  cases hu9
  obtain ⟨f_1, ef_1⟩ : ∃ z, z = f1 := ⟨_, rfl⟩
  rw [← ef_1] at hf1 hP1 hD1
  clear ef_1 f1
  have hfx_2 := hf1
  obtain ⟨hP, hD⟩ := va_join (wr := []) (w1 := (cx q ca C L f_1 w d st tg hi mi go)) hP hD [0, 1, 2, 3, 4, 5, 6, 7, 8, 9, 10, 11] [] rfl rfl (by decide) (by decide) hk1 hFc hP1 hD1
  generalize H1 = H at hP hS ⊢
  replace hP : va_P (dC, dI) vwCl (cx q ca C L f_1 w d st tg hi mi go) H := hP
  replace hD : va_D A (cx q ca C L f_1 w d st tg hi mi go) := hD
  refine lv_istore_n (lv' := [(2, .int (nI (ap_wl L x))), (0, .ref (q 0)), (1, .int x)]) hx hb dX1_request_5 rfl hl (by decide) rfl (fun ls hl => ?_)
  refine lv_iload_n hx hb dX1_request_6 rfl (lv_at hl 0 rfl) ?_
  refine lv_iconst (v := nI 1) hx hb dX1_request_7 (by decide) ?_
  refine lv_icmp_eq (tgt := 16) hx hb dX1_request_8 (by decide) (fun c_8 => ?_) (fun c_8 => ?_)
  · skip
    replace c_8 : (ap_wl L x) = 1 := (nI_eq (a := ap_wl L x) (b := 1) (by omega) (by omega)).mp c_8
    have ek9 : ap_wl L x = 1 := by omega
    rw [ek9] at hl
    have hfin9 : (ap_mv L x 1 2, w, d, st, tg, hi + 1, mi, go) = ap_rq C x (L, w, d, st, tg, hi, mi, go) := by rw [ap_rq_hit (Or.inl ek9), ek9]
    refine lv_aload_n hx hb dX1_request_16 rfl (lv_at hl 1 rfl) ?_
    refine lv_dup hx hb dX1_request_17 rfl ?_
    refine va_get (D := (dC, dI)) (ci := 1) (v := .int hi) (C := RX1) (T := TX1) (N := 12) hx hb hts hwX1 hown hK hP 0 rfl rfl 9 (by decide) (hts (.fieldLink RX1 58 "ArcCache" "hitCount" "I") (by decide +kernel)) (fun _ h9 => h9) rfl dX1_request_18 ?_
    refine lv_iconst (v := nI 1) hx hb dX1_request_21 (by decide) ?_
    refine lv_iadd hx hb dX1_request_22 ?_
    refine va_put (D := (dC, dI)) (ci := 1) (v := .int (hi + (nI 1))) (ty := .int) (C := RX1) (T := TX1) (N := 12) hx hb hts hwX1 tyX1 tyX1_ok nmX1 hown hK hP hD hS 0 rfl rfl 9 (by decide) (hts (.fieldLink RX1 58 "ArcCache" "hitCount" "I") (by decide +kernel)) (fun _ h9 => h9) rfl (by decide +kernel) rfl rfl (Nat.le_of_ble_eq_true rfl) dX1_request_23 (fun H locs hP hD hS => ?_)
    replace hP : va_P (dC, dI) vwCl (cx q ca C L f_1 w d st tg (hi + (nI 1)) mi go) H := hP
    replace hD : va_D A (cx q ca C L f_1 w d st tg (hi + (nI 1)) mi go) := hD
    refine lv_aload_n hx hb dX1_request_26 rfl (lv_at hl 1 rfl) ?_
    refine lv_iload_n hx hb dX1_request_27 rfl (lv_at hl 2 rfl) ?_
    refine lv_iload_n hx hb dX1_request_28 rfl (lv_at hl 0 rfl) ?_
    have hPc := hP.sub (ws' := (cx q ca C L f_1 w d st tg (hi + (nI 1)) mi go)) [0, 1, 2, 3, 4, 5, 6, 7, 8, 9, 10, 11] rfl
    have hDc := hD.sub (ws' := (cx q ca C L f_1 w d st tg (hi + (nI 1)) mi go)) [0, 1, 2, 3, 4, 5, 6, 7, 8, 9, 10, 11] (by decide) rfl
    have hKc := hK.sub (tys' := (kx ca)) [0, 1, 2, 3, 4, 5, 6] rfl
    have hFc := va_free (wc := (cx q ca C L f_1 w d st tg (hi + (nI 1)) mi go)) hD hS hA [0, 1, 2, 3, 4, 5, 6, 7, 8, 9, 10, 11] rfl
    refine va_callv (va_runV (As := [.int x, .int (nI 1)]) (rest := []) ⟨hx, hb, hml, hown, hts⟩ (c_X_move1 l dC dI q ca C L f_1 w d st tg (hi + (nI 1)) mi go x H.size hfx_2 hI hz hx64) (cwV 2 hts gX1_request_X1_moveToCameAgain rfl rfl rfl (by decide +kernel) ⟨Nat.le_of_ble_eq_true rfl, Nat.le_of_ble_eq_true rfl⟩) ⟨fun a U g mk q => by obtain ⟨q0, q1, qP, qK, qD, qN⟩ := q; exact ⟨q0, q1, qP, va_K.moved (u := U) (U := U.calling g mk a) (Vm.Alike.refl U.vm) qK, qD, va_tabs rfl (rfl : U.vm = (U.calling g mk a).vm) qN⟩, va_recv hKc hPc (ci := 1) (q0 := 0) rfl rfl, fun U hU hW => ⟨rfl, by rw [hU], by rw [hU]; exact hPc, va_K.moved hW.alike hKc, hDc.weaken (fun _ _ _ _ => trivial), va_Nw.warmM hW hN⟩⟩ rfl rfl hl.1 rfl (lv_room (Nat.le_of_ble_eq_true rfl)) dX1_request_29 ⟨Nat.le_of_ble_eq_true rfl, Nat.le_of_ble_eq_true rfl⟩) hS (fun q _ h => hFc q h) hFc (fun u t H1 locs ht hvm hw hB hz1 hk1 hS => ?_)
    obtain ⟨L1, w1, d1, st1, tg1, hi1, mi1, go1⟩ := u
    obtain ⟨f1, hf1, hP1, hK1, hD1⟩ := hB
    rw [ht] at hP1
    cases hw
    obtain ⟨f_3, ef_3⟩ : ∃ z, z = f1 := ⟨_, rfl⟩
    rw [← ef_3] at hf1 hP1 hD1
    clear ef_3 f1
    have hfx_4 := hf1
    obtain ⟨hP, hD⟩ := va_join (wr := []) (w1 := (cx q ca C (ap_mv L x 1 2) f_3 w d st tg (hi + (nI 1)) mi go)) hP hD [0, 1, 2, 3, 4, 5, 6, 7, 8, 9, 10, 11] [] rfl rfl (by decide) (by decide) hk1 hFc hP1 hD1
    generalize H1 = H at hP hS ⊢
    replace hP : va_P (dC, dI) vwCl (cx q ca C (ap_mv L x 1 2) f_3 w d st tg (hi + (nI 1)) mi go) H := hP
    replace hD : va_D A (cx q ca C (ap_mv L x 1 2) f_3 w d st tg (hi + (nI 1)) mi go) := hD
    exact W.vret hx hb hr (fun t ht hW => ⟨⟨(ap_mv L x 1 2, w, d, st, tg, hi + 1, mi, go), rfl, hfin9, f_3, hfx_4, by rw [ht]; exact hP, va_K.moved hW.alike hK, hD⟩, hS.F ht⟩) hS.2.2 dX1_request_32
  · skip
    replace c_8 : ¬ ((ap_wl L x) = 1) := fun h9 => c_8 ((nI_eq (a := ap_wl L x) (b := 1) (by omega) (by omega)).mpr h9)
    refine lv_iload_n hx hb dX1_request_11 rfl (lv_at hl 0 rfl) ?_
    refine lv_iconst (v := nI 2) hx hb dX1_request_12 (by decide) ?_
    refine lv_icmp_ne (tgt := 33) hx hb dX1_request_13 (by decide) (fun c_13 => ?_) (fun c_13 => ?_)
    · skip
      replace c_13 : ¬ ((ap_wl L x) = 2) := fun h9 => c_13 ((nI_eq (a := ap_wl L x) (b := 2) (by omega) (by omega)).mpr h9)
      refine lv_aload_n hx hb dX1_request_33 rfl (lv_at hl 1 rfl) ?_
      refine lv_dup hx hb dX1_request_34 rfl ?_
      refine va_get (D := (dC, dI)) (ci := 1) (v := .int mi) (C := RX1) (T := TX1) (N := 12) hx hb hts hwX1 hown hK hP 0 rfl rfl 10 (by decide) (hts (.fieldLink RX1 61 "ArcCache" "missCount" "I") (by decide +kernel)) (fun _ h9 => h9) rfl dX1_request_35 ?_
      refine lv_iconst (v := nI 1) hx hb dX1_request_38 (by decide) ?_
      refine lv_iadd hx hb dX1_request_39 ?_
      refine va_put (D := (dC, dI)) (ci := 1) (v := .int (mi + (nI 1))) (ty := .int) (C := RX1) (T := TX1) (N := 12) hx hb hts hwX1 tyX1 tyX1_ok nmX1 hown hK hP hD hS 0 rfl rfl 10 (by decide) (hts (.fieldLink RX1 61 "ArcCache" "missCount" "I") (by decide +kernel)) (fun _ h9 => h9) rfl (by decide +kernel) rfl rfl (Nat.le_of_ble_eq_true rfl) dX1_request_40 (fun H locs hP hD hS => ?_)
      replace hP : va_P (dC, dI) vwCl (cx q ca C L f_1 w d st tg hi (mi + (nI 1)) go) H := hP
      replace hD : va_D A (cx q ca C L f_1 w d st tg hi (mi + (nI 1)) go) := hD
      refine lv_iload_n hx hb dX1_request_43 rfl (lv_at hl 0 rfl) ?_
      refine lv_if_ne (tgt := 63) hx hb dX1_request_44 (by decide) (fun c_44 => ?_) (fun c_44 => ?_)
      · skip
        replace c_44 : ¬ ((ap_wl L x) = 0) := fun h9 => c_44 ((nI_eq (a := ap_wl L x) (b := 0) (by omega) (by omega)).mpr h9)
        refine lv_aload_n hx hb dX1_request_63 rfl (lv_at hl 1 rfl) ?_
        refine lv_iload_n hx hb dX1_request_64 rfl (lv_at hl 0 rfl) ?_
        have h349 : ap_wl L x = 3 ∨ ap_wl L x = 4 := by omega
        rcases h349 with ek9 | ek9
        · rw [ek9] at hl
          rw [ek9]
          have hfin9 : (ap_mv (ap_mk w (ap_tg L C tg 3) x (L, d, st, go)).1 x 3 2, upd w x.toNatClampNeg ((ap_mk w (ap_tg L C tg 3) x (L, d, st, go)).2.2.1 x.toNatClampNeg), upd (ap_mk w (ap_tg L C tg 3) x (L, d, st, go)).2.1 x.toNatClampNeg 0, (ap_mk w (ap_tg L C tg 3) x (L, d, st, go)).2.2.1, ap_tg L C tg 3, hi, mi + 1, (ap_mk w (ap_tg L C tg 3) x (L, d, st, go)).2.2.2) = ap_rq C x (L, w, d, st, tg, hi, mi, go) := by rw [ap_rq_old ek9 (Or.inl rfl)]
          have htgle9 : ap_tg L C tg 3 ≤ C := ap_tg_le htg
          have hmki9 : ap_inv (ap_mk w (ap_tg L C tg 3) x (L, d, st, go)).1 := (ap_mk_facts (w := w) (t := ap_tg L C tg 3) (a := x) (S := (L, d, st, go)) hI).1
          have hmkz9 : ap_tot (ap_mk w (ap_tg L C tg 3) x (L, d, st, go)).1 ≤ 48 := by rw [ap_tot_mk (S := (L, d, st, go)) hI]; exact hz
          have hPc := hP.sub (ws' := (cx q ca C L f_1 w d st tg hi (mi + (nI 1)) go)) [0, 1, 2, 3, 4, 5, 6, 7, 8, 9, 10, 11] rfl
          have hDc := hD.sub (ws' := (cx q ca C L f_1 w d st tg hi (mi + (nI 1)) go)) [0, 1, 2, 3, 4, 5, 6, 7, 8, 9, 10, 11] (by decide) rfl
          have hKc := hK.sub (tys' := (kx ca)) [0, 1, 2, 3, 4, 5, 6] rfl
          have hFc := va_free (wc := (cx q ca C L f_1 w d st tg hi (mi + (nI 1)) go)) hD hS hA [0, 1, 2, 3, 4, 5, 6, 7, 8, 9, 10, 11] rfl
          refine va_callv (va_runV (As := [.int (nI 3)]) (rest := []) ⟨hx, hb, hml, hown, hts⟩ (c_X_tgt3 l dC dI q ca C L f_1 w d st tg hi (mi + (nI 1)) go H.size hfx_2 hI hz htg hC) (cwV 1 hts gX1_request_X1_moveTarget rfl rfl rfl (by decide +kernel) ⟨Nat.le_of_ble_eq_true rfl, Nat.le_of_ble_eq_true rfl⟩) ⟨fun a U g mk q => by obtain ⟨q0, q1, qP, qK, qD⟩ := q; exact ⟨q0, q1, qP, va_K.moved (u := U) (U := U.calling g mk a) (Vm.Alike.refl U.vm) qK, qD⟩, va_recv hKc hPc (ci := 1) (q0 := 0) rfl rfl, fun U hU hW => ⟨rfl, by rw [hU], by rw [hU]; exact hPc, va_K.moved hW.alike hKc, hDc.weaken (fun _ _ _ _ => trivial)⟩⟩ rfl rfl hl.1 rfl (lv_room (Nat.le_of_ble_eq_true rfl)) dX1_request_65 ⟨Nat.le_of_ble_eq_true rfl, Nat.le_of_ble_eq_true rfl⟩) hS (fun q _ h => hFc q h) hFc (fun u t H1 locs ht hvm hw hB hz1 hk1 hS => ?_)
          obtain ⟨L1, w1, d1, st1, tg1, hi1, mi1, go1⟩ := u
          obtain ⟨f1, hf1, hP1, hK1, hD1⟩ := hB
          rw [ht] at hP1
          cases hw
          obtain ⟨f_5, ef_5⟩ : ∃ z, z = f1 := ⟨_, rfl⟩
          rw [← ef_5] at hf1 hP1 hD1
          clear ef_5 f1
          have hfx_6 := hf1
          obtain ⟨hP, hD⟩ := va_join (wr := []) (w1 := (cx q ca C L f_5 w d st (ap_tg L C tg 3) hi (mi + (nI 1)) go)) hP hD [0, 1, 2, 3, 4, 5, 6, 7, 8, 9, 10, 11] [] rfl rfl (by decide) (by decide) hk1 hFc hP1 hD1
          generalize H1 = H at hP hS ⊢
          replace hP : va_P (dC, dI) vwCl (cx q ca C L f_5 w d st (ap_tg L C tg 3) hi (mi + (nI 1)) go) H := hP
          replace hD : va_D A (cx q ca C L f_5 w d st (ap_tg L C tg 3) hi (mi + (nI 1)) go) := hD
          refine lv_aload_n hx hb dX1_request_68 rfl (lv_at hl 1 rfl) ?_
          refine lv_iload_n hx hb dX1_request_69 rfl (lv_at hl 2 rfl) ?_
          have hPc := hP.sub (ws' := (cx q ca C L f_5 w d st (ap_tg L C tg 3) hi (mi + (nI 1)) go)) [0, 1, 2, 3, 4, 5, 6, 7, 8, 9, 10, 11] rfl
          have hDc := hD.sub (ws' := (cx q ca C L f_5 w d st (ap_tg L C tg 3) hi (mi + (nI 1)) go)) [0, 1, 2, 3, 4, 5, 6, 7, 8, 9, 10, 11] (by decide) rfl
          have hKc := hK.sub (tys' := (kx ca)) [0, 1, 2, 3, 4, 5, 6] rfl
          have hFc := va_free (wc := (cx q ca C L f_5 w d st (ap_tg L C tg 3) hi (mi + (nI 1)) go)) hD hS hA [0, 1, 2, 3, 4, 5, 6, 7, 8, 9, 10, 11] rfl
          refine va_callv (va_runV (As := [.int x]) (rest := []) ⟨hx, hb, hml, hown, hts⟩ (c_X_makeRoom l dC dI q ca C L f_5 w d st (ap_tg L C tg 3) hi (mi + (nI 1)) go x H.size hfx_6 hI hz (by omega)) (cwV 1 hts gX1_request_X1_makeRoom rfl rfl rfl (by decide +kernel) ⟨Nat.le_of_ble_eq_true rfl, Nat.le_of_ble_eq_true rfl⟩) ⟨fun a U g mk q => by obtain ⟨q0, q1, qP, qK, qD, qN⟩ := q; exact ⟨q0, q1, qP, va_K.moved (u := U) (U := U.calling g mk a) (Vm.Alike.refl U.vm) qK, qD, va_tabs rfl (rfl : U.vm = (U.calling g mk a).vm) qN⟩, va_recv hKc hPc (ci := 1) (q0 := 0) rfl rfl, fun U hU hW => ⟨rfl, by rw [hU], by rw [hU]; exact hPc, va_K.moved hW.alike hKc, hDc.weaken (fun _ _ _ _ => trivial), va_Nw.warmM hW hN⟩⟩ rfl rfl hl.1 rfl (lv_room (Nat.le_of_ble_eq_true rfl)) dX1_request_70 ⟨Nat.le_of_ble_eq_true rfl, Nat.le_of_ble_eq_true rfl⟩) hS (fun q _ h => hFc q h) hFc (fun u t H1 locs ht hvm hw hB hz1 hk1 hS => ?_)
          obtain ⟨L1, w1, d1, st1, tg1, hi1, mi1, go1⟩ := u
          obtain ⟨f1, hf1, hP1, hK1, hD1⟩ := hB
          rw [ht] at hP1
          obtain ⟨f_7, ef_7⟩ : ∃ z, z = f1 := ⟨_, rfl⟩
          rw [← ef_7] at hf1 hP1 hD1
          clear ef_7 f1
          replace hw := hw.symm
          simp only [ap_tu, Prod.mk.injEq] at hw
          obtain ⟨rfl, rfl, rfl, rfl, rfl, rfl, rfl, rfl⟩ := hw
          have hfx_8 := hf1
          obtain ⟨hP, hD⟩ := va_join (wr := []) (w1 := (cx q ca C ((ap_mk w (ap_tg L C tg 3) x (L, d, st, go)).1) f_7 w ((ap_mk w (ap_tg L C tg 3) x (L, d, st, go)).2.1) ((ap_mk w (ap_tg L C tg 3) x (L, d, st, go)).2.2.1) (ap_tg L C tg 3) hi (mi + (nI 1)) ((ap_mk w (ap_tg L C tg 3) x (L, d, st, go)).2.2.2))) hP hD [0, 1, 2, 3, 4, 5, 6, 7, 8, 9, 10, 11] [] rfl rfl (by decide) (by decide) hk1 hFc hP1 hD1
          generalize H1 = H at hP hS ⊢
          replace hP : va_P (dC, dI) vwCl (cx q ca C ((ap_mk w (ap_tg L C tg 3) x (L, d, st, go)).1) f_7 w ((ap_mk w (ap_tg L C tg 3) x (L, d, st, go)).2.1) ((ap_mk w (ap_tg L C tg 3) x (L, d, st, go)).2.2.1) (ap_tg L C tg 3) hi (mi + (nI 1)) ((ap_mk w (ap_tg L C tg 3) x (L, d, st, go)).2.2.2)) H := hP
          replace hD : va_D A (cx q ca C ((ap_mk w (ap_tg L C tg 3) x (L, d, st, go)).1) f_7 w ((ap_mk w (ap_tg L C tg 3) x (L, d, st, go)).2.1) ((ap_mk w (ap_tg L C tg 3) x (L, d, st, go)).2.2.1) (ap_tg L C tg 3) hi (mi + (nI 1)) ((ap_mk w (ap_tg L C tg 3) x (L, d, st, go)).2.2.2)) := hD
          refine lv_aload_n hx hb dX1_request_73 rfl (lv_at hl 1 rfl) ?_
          refine lv_iload_n hx hb dX1_request_74 rfl (lv_at hl 2 rfl) ?_
          refine lv_iload_n hx hb dX1_request_75 rfl (lv_at hl 0 rfl) ?_
          have hPc := hP.sub (ws' := (cx q ca C ((ap_mk w (ap_tg L C tg 3) x (L, d, st, go)).1) f_7 w ((ap_mk w (ap_tg L C tg 3) x (L, d, st, go)).2.1) ((ap_mk w (ap_tg L C tg 3) x (L, d, st, go)).2.2.1) (ap_tg L C tg 3) hi (mi + (nI 1)) ((ap_mk w (ap_tg L C tg 3) x (L, d, st, go)).2.2.2))) [0, 1, 2, 3, 4, 5, 6, 7, 8, 9, 10, 11] rfl
          have hDc := hD.sub (ws' := (cx q ca C ((ap_mk w (ap_tg L C tg 3) x (L, d, st, go)).1) f_7 w ((ap_mk w (ap_tg L C tg 3) x (L, d, st, go)).2.1) ((ap_mk w (ap_tg L C tg 3) x (L, d, st, go)).2.2.1) (ap_tg L C tg 3) hi (mi + (nI 1)) ((ap_mk w (ap_tg L C tg 3) x (L, d, st, go)).2.2.2))) [0, 1, 2, 3, 4, 5, 6, 7, 8, 9, 10, 11] (by decide) rfl
          have hKc := hK.sub (tys' := (kx ca)) [0, 1, 2, 3, 4, 5, 6] rfl
          have hFc := va_free (wc := (cx q ca C ((ap_mk w (ap_tg L C tg 3) x (L, d, st, go)).1) f_7 w ((ap_mk w (ap_tg L C tg 3) x (L, d, st, go)).2.1) ((ap_mk w (ap_tg L C tg 3) x (L, d, st, go)).2.2.1) (ap_tg L C tg 3) hi (mi + (nI 1)) ((ap_mk w (ap_tg L C tg 3) x (L, d, st, go)).2.2.2))) hD hS hA [0, 1, 2, 3, 4, 5, 6, 7, 8, 9, 10, 11] rfl
          refine va_callv (va_runV (As := [.int x, .int (nI 3)]) (rest := []) ⟨hx, hb, hml, hown, hts⟩ (c_X_move3 l dC dI q ca C ((ap_mk w (ap_tg L C tg 3) x (L, d, st, go)).1) f_7 w ((ap_mk w (ap_tg L C tg 3) x (L, d, st, go)).2.1) ((ap_mk w (ap_tg L C tg 3) x (L, d, st, go)).2.2.1) (ap_tg L C tg 3) hi (mi + (nI 1)) ((ap_mk w (ap_tg L C tg 3) x (L, d, st, go)).2.2.2) x H.size hfx_8 hmki9 hmkz9 hx64) (cwV 2 hts gX1_request_X1_moveToCameAgain rfl rfl rfl (by decide +kernel) ⟨Nat.le_of_ble_eq_true rfl, Nat.le_of_ble_eq_true rfl⟩) ⟨fun a U g mk q => by obtain ⟨q0, q1, qP, qK, qD, qN⟩ := q; exact ⟨q0, q1, qP, va_K.moved (u := U) (U := U.calling g mk a) (Vm.Alike.refl U.vm) qK, qD, va_tabs rfl (rfl : U.vm = (U.calling g mk a).vm) qN⟩, va_recv hKc hPc (ci := 1) (q0 := 0) rfl rfl, fun U hU hW => ⟨rfl, by rw [hU], by rw [hU]; exact hPc, va_K.moved hW.alike hKc, hDc.weaken (fun _ _ _ _ => trivial), va_Nw.warmM hW hN⟩⟩ rfl rfl hl.1 rfl (lv_room (Nat.le_of_ble_eq_true rfl)) dX1_request_76 ⟨Nat.le_of_ble_eq_true rfl, Nat.le_of_ble_eq_true rfl⟩) hS (fun q _ h => hFc q h) hFc (fun u t H1 locs ht hvm hw hB hz1 hk1 hS => ?_)
          obtain ⟨L1, w1, d1, st1, tg1, hi1, mi1, go1⟩ := u
          obtain ⟨f1, hf1, hP1, hK1, hD1⟩ := hB
          rw [ht] at hP1
          cases hw
          obtain ⟨f_9, ef_9⟩ : ∃ z, z = f1 := ⟨_, rfl⟩
          rw [← ef_9] at hf1 hP1 hD1
          clear ef_9 f1
          have hfx_10 := hf1
          obtain ⟨hP, hD⟩ := va_join (wr := []) (w1 := (cx q ca C (ap_mv ((ap_mk w (ap_tg L C tg 3) x (L, d, st, go)).1) x 3 2) f_9 w ((ap_mk w (ap_tg L C tg 3) x (L, d, st, go)).2.1) ((ap_mk w (ap_tg L C tg 3) x (L, d, st, go)).2.2.1) (ap_tg L C tg 3) hi (mi + (nI 1)) ((ap_mk w (ap_tg L C tg 3) x (L, d, st, go)).2.2.2))) hP hD [0, 1, 2, 3, 4, 5, 6, 7, 8, 9, 10, 11] [] rfl rfl (by decide) (by decide) hk1 hFc hP1 hD1
          generalize H1 = H at hP hS ⊢
          replace hP : va_P (dC, dI) vwCl (cx q ca C (ap_mv ((ap_mk w (ap_tg L C tg 3) x (L, d, st, go)).1) x 3 2) f_9 w ((ap_mk w (ap_tg L C tg 3) x (L, d, st, go)).2.1) ((ap_mk w (ap_tg L C tg 3) x (L, d, st, go)).2.2.1) (ap_tg L C tg 3) hi (mi + (nI 1)) ((ap_mk w (ap_tg L C tg 3) x (L, d, st, go)).2.2.2)) H := hP
          replace hD : va_D A (cx q ca C (ap_mv ((ap_mk w (ap_tg L C tg 3) x (L, d, st, go)).1) x 3 2) f_9 w ((ap_mk w (ap_tg L C tg 3) x (L, d, st, go)).2.1) ((ap_mk w (ap_tg L C tg 3) x (L, d, st, go)).2.2.1) (ap_tg L C tg 3) hi (mi + (nI 1)) ((ap_mk w (ap_tg L C tg 3) x (L, d, st, go)).2.2.2)) := hD
          refine lv_aload_n hx hb dX1_request_79 rfl (lv_at hl 1 rfl) ?_
          refine lv_iload_n hx hb dX1_request_80 rfl (lv_at hl 2 rfl) ?_
          have hPc := hP.sub (ws' := (cx q ca C (ap_mv ((ap_mk w (ap_tg L C tg 3) x (L, d, st, go)).1) x 3 2) f_9 w ((ap_mk w (ap_tg L C tg 3) x (L, d, st, go)).2.1) ((ap_mk w (ap_tg L C tg 3) x (L, d, st, go)).2.2.1) (ap_tg L C tg 3) hi (mi + (nI 1)) ((ap_mk w (ap_tg L C tg 3) x (L, d, st, go)).2.2.2))) [0, 1, 2, 3, 4, 5, 6, 7, 8, 9, 10, 11] rfl
          have hDc := hD.sub (ws' := (cx q ca C (ap_mv ((ap_mk w (ap_tg L C tg 3) x (L, d, st, go)).1) x 3 2) f_9 w ((ap_mk w (ap_tg L C tg 3) x (L, d, st, go)).2.1) ((ap_mk w (ap_tg L C tg 3) x (L, d, st, go)).2.2.1) (ap_tg L C tg 3) hi (mi + (nI 1)) ((ap_mk w (ap_tg L C tg 3) x (L, d, st, go)).2.2.2))) [0, 1, 2, 3, 4, 5, 6, 7, 8, 9, 10, 11] (by decide) rfl
          have hKc := hK.sub (tys' := (kx ca)) [0, 1, 2, 3, 4, 5, 6] rfl
          have hFc := va_free (wc := (cx q ca C (ap_mv ((ap_mk w (ap_tg L C tg 3) x (L, d, st, go)).1) x 3 2) f_9 w ((ap_mk w (ap_tg L C tg 3) x (L, d, st, go)).2.1) ((ap_mk w (ap_tg L C tg 3) x (L, d, st, go)).2.2.1) (ap_tg L C tg 3) hi (mi + (nI 1)) ((ap_mk w (ap_tg L C tg 3) x (L, d, st, go)).2.2.2))) hD hS hA [0, 1, 2, 3, 4, 5, 6, 7, 8, 9, 10, 11] rfl
          refine va_callv (va_runV (As := [.int x]) (rest := []) ⟨hx, hb, hml, hown, hts⟩ (c_X_bringPage l dC dI q ca C (ap_mv ((ap_mk w (ap_tg L C tg 3) x (L, d, st, go)).1) x 3 2) f_9 w ((ap_mk w (ap_tg L C tg 3) x (L, d, st, go)).2.1) ((ap_mk w (ap_tg L C tg 3) x (L, d, st, go)).2.2.1) (ap_tg L C tg 3) hi (mi + (nI 1)) ((ap_mk w (ap_tg L C tg 3) x (L, d, st, go)).2.2.2) x H.size hfx_10 hx64) (cwV 1 hts gX1_request_X1_bringPage rfl rfl rfl (by decide +kernel) ⟨Nat.le_of_ble_eq_true rfl, Nat.le_of_ble_eq_true rfl⟩) ⟨fun a U g mk q => by obtain ⟨q0, q1, qP, qK, qD⟩ := q; exact ⟨q0, q1, qP, va_K.moved (u := U) (U := U.calling g mk a) (Vm.Alike.refl U.vm) qK, qD⟩, va_recv hKc hPc (ci := 1) (q0 := 0) rfl rfl, fun U hU hW => ⟨rfl, by rw [hU], by rw [hU]; exact hPc, va_K.moved hW.alike hKc, hDc.weaken (fun _ _ _ _ => trivial)⟩⟩ rfl rfl hl.1 rfl (lv_room (Nat.le_of_ble_eq_true rfl)) dX1_request_81 ⟨Nat.le_of_ble_eq_true rfl, Nat.le_of_ble_eq_true rfl⟩) hS (fun q _ h => hFc q h) hFc (fun u t H1 locs ht hvm hw hB hz1 hk1 hS => ?_)
          obtain ⟨L1, w1, d1, st1, tg1, hi1, mi1, go1⟩ := u
          obtain ⟨f1, hf1, hP1, hK1, hD1⟩ := hB
          rw [ht] at hP1
          cases hw
          obtain ⟨f_11, ef_11⟩ : ∃ z, z = f1 := ⟨_, rfl⟩
          rw [← ef_11] at hf1 hP1 hD1
          clear ef_11 f1
          have hfx_12 := hf1
          obtain ⟨hP, hD⟩ := va_join (wr := []) (w1 := (cx q ca C (ap_mv ((ap_mk w (ap_tg L C tg 3) x (L, d, st, go)).1) x 3 2) f_11 (upd w x.toNatClampNeg (((ap_mk w (ap_tg L C tg 3) x (L, d, st, go)).2.2.1) x.toNatClampNeg)) (upd ((ap_mk w (ap_tg L C tg 3) x (L, d, st, go)).2.1) x.toNatClampNeg 0) ((ap_mk w (ap_tg L C tg 3) x (L, d, st, go)).2.2.1) (ap_tg L C tg 3) hi (mi + (nI 1)) ((ap_mk w (ap_tg L C tg 3) x (L, d, st, go)).2.2.2))) hP hD [0, 1, 2, 3, 4, 5, 6, 7, 8, 9, 10, 11] [] rfl rfl (by decide) (by decide) hk1 hFc hP1 hD1
          generalize H1 = H at hP hS ⊢
          replace hP : va_P (dC, dI) vwCl (cx q ca C (ap_mv ((ap_mk w (ap_tg L C tg 3) x (L, d, st, go)).1) x 3 2) f_11 (upd w x.toNatClampNeg (((ap_mk w (ap_tg L C tg 3) x (L, d, st, go)).2.2.1) x.toNatClampNeg)) (upd ((ap_mk w (ap_tg L C tg 3) x (L, d, st, go)).2.1) x.toNatClampNeg 0) ((ap_mk w (ap_tg L C tg 3) x (L, d, st, go)).2.2.1) (ap_tg L C tg 3) hi (mi + (nI 1)) ((ap_mk w (ap_tg L C tg 3) x (L, d, st, go)).2.2.2)) H := hP
          replace hD : va_D A (cx q ca C (ap_mv ((ap_mk w (ap_tg L C tg 3) x (L, d, st, go)).1) x 3 2) f_11 (upd w x.toNatClampNeg (((ap_mk w (ap_tg L C tg 3) x (L, d, st, go)).2.2.1) x.toNatClampNeg)) (upd ((ap_mk w (ap_tg L C tg 3) x (L, d, st, go)).2.1) x.toNatClampNeg 0) ((ap_mk w (ap_tg L C tg 3) x (L, d, st, go)).2.2.1) (ap_tg L C tg 3) hi (mi + (nI 1)) ((ap_mk w (ap_tg L C tg 3) x (L, d, st, go)).2.2.2)) := hD
          exact W.vret hx hb hr (fun t ht hW => ⟨⟨(ap_mv (ap_mk w (ap_tg L C tg 3) x (L, d, st, go)).1 x 3 2, upd w x.toNatClampNeg ((ap_mk w (ap_tg L C tg 3) x (L, d, st, go)).2.2.1 x.toNatClampNeg), upd (ap_mk w (ap_tg L C tg 3) x (L, d, st, go)).2.1 x.toNatClampNeg 0, (ap_mk w (ap_tg L C tg 3) x (L, d, st, go)).2.2.1, ap_tg L C tg 3, hi, mi + 1, (ap_mk w (ap_tg L C tg 3) x (L, d, st, go)).2.2.2), rfl, hfin9, f_11, hfx_12, by rw [ht]; exact hP, va_K.moved hW.alike hK, hD⟩, hS.F ht⟩) hS.2.2 dX1_request_84
        · rw [ek9] at hl
          rw [ek9]
          have hfin9 : (ap_mv (ap_mk w (ap_tg L C tg 4) x (L, d, st, go)).1 x 4 2, upd w x.toNatClampNeg ((ap_mk w (ap_tg L C tg 4) x (L, d, st, go)).2.2.1 x.toNatClampNeg), upd (ap_mk w (ap_tg L C tg 4) x (L, d, st, go)).2.1 x.toNatClampNeg 0, (ap_mk w (ap_tg L C tg 4) x (L, d, st, go)).2.2.1, ap_tg L C tg 4, hi, mi + 1, (ap_mk w (ap_tg L C tg 4) x (L, d, st, go)).2.2.2) = ap_rq C x (L, w, d, st, tg, hi, mi, go) := by rw [ap_rq_old ek9 (Or.inr rfl)]
          have htgle9 : ap_tg L C tg 4 ≤ C := ap_tg_le htg
          have hmki9 : ap_inv (ap_mk w (ap_tg L C tg 4) x (L, d, st, go)).1 := (ap_mk_facts (w := w) (t := ap_tg L C tg 4) (a := x) (S := (L, d, st, go)) hI).1
          have hmkz9 : ap_tot (ap_mk w (ap_tg L C tg 4) x (L, d, st, go)).1 ≤ 48 := by rw [ap_tot_mk (S := (L, d, st, go)) hI]; exact hz
          have hPc := hP.sub (ws' := (cx q ca C L f_1 w d st tg hi (mi + (nI 1)) go)) [0, 1, 2, 3, 4, 5, 6, 7, 8, 9, 10, 11] rfl
          have hDc := hD.sub (ws' := (cx q ca C L f_1 w d st tg hi (mi + (nI 1)) go)) [0, 1, 2, 3, 4, 5, 6, 7, 8, 9, 10, 11] (by decide) rfl
          have hKc := hK.sub (tys' := (kx ca)) [0, 1, 2, 3, 4, 5, 6] rfl
          have hFc := va_free (wc := (cx q ca C L f_1 w d st tg hi (mi + (nI 1)) go)) hD hS hA [0, 1, 2, 3, 4, 5, 6, 7, 8, 9, 10, 11] rfl
          refine va_callv (va_runV (As := [.int (nI 4)]) (rest := []) ⟨hx, hb, hml, hown, hts⟩ (c_X_tgt4 l dC dI q ca C L f_1 w d st tg hi (mi + (nI 1)) go H.size hfx_2 hI hz htg hC) (cwV 1 hts gX1_request_X1_moveTarget rfl rfl rfl (by decide +kernel) ⟨Nat.le_of_ble_eq_true rfl, Nat.le_of_ble_eq_true rfl⟩) ⟨fun a U g mk q => by obtain ⟨q0, q1, qP, qK, qD⟩ := q; exact ⟨q0, q1, qP, va_K.moved (u := U) (U := U.calling g mk a) (Vm.Alike.refl U.vm) qK, qD⟩, va_recv hKc hPc (ci := 1) (q0 := 0) rfl rfl, fun U hU hW => ⟨rfl, by rw [hU], by rw [hU]; exact hPc, va_K.moved hW.alike hKc, hDc.weaken (fun _ _ _ _ => trivial)⟩⟩ rfl rfl hl.1 rfl (lv_room (Nat.le_of_ble_eq_true rfl)) dX1_request_65 ⟨Nat.le_of_ble_eq_true rfl, Nat.le_of_ble_eq_true rfl⟩) hS (fun q _ h => hFc q h) hFc (fun u t H1 locs ht hvm hw hB hz1 hk1 hS => ?_)
          obtain ⟨L1, w1, d1, st1, tg1, hi1, mi1, go1⟩ := u
          obtain ⟨f1, hf1, hP1, hK1, hD1⟩ := hB
          rw [ht] at hP1
          cases hw
          obtain ⟨f_13, ef_13⟩ : ∃ z, z = f1 := ⟨_, rfl⟩
          rw [← ef_13] at hf1 hP1 hD1
          clear ef_13 f1
          have hfx_14 := hf1
          obtain ⟨hP, hD⟩ := va_join (wr := []) (w1 := (cx q ca C L f_13 w d st (ap_tg L C tg 4) hi (mi + (nI 1)) go)) hP hD [0, 1, 2, 3, 4, 5, 6, 7, 8, 9, 10, 11] [] rfl rfl (by decide) (by decide) hk1 hFc hP1 hD1
          generalize H1 = H at hP hS ⊢
          replace hP : va_P (dC, dI) vwCl (cx q ca C L f_13 w d st (ap_tg L C tg 4) hi (mi + (nI 1)) go) H := hP
          replace hD : va_D A (cx q ca C L f_13 w d st (ap_tg L C tg 4) hi (mi + (nI 1)) go) := hD
          refine lv_aload_n hx hb dX1_request_68 rfl (lv_at hl 1 rfl) ?_
          refine lv_iload_n hx hb dX1_request_69 rfl (lv_at hl 2 rfl) ?_
          have hPc := hP.sub (ws' := (cx q ca C L f_13 w d st (ap_tg L C tg 4) hi (mi + (nI 1)) go)) [0, 1, 2, 3, 4, 5, 6, 7, 8, 9, 10, 11] rfl
          have hDc := hD.sub (ws' := (cx q ca C L f_13 w d st (ap_tg L C tg 4) hi (mi + (nI 1)) go)) [0, 1, 2, 3, 4, 5, 6, 7, 8, 9, 10, 11] (by decide) rfl
          have hKc := hK.sub (tys' := (kx ca)) [0, 1, 2, 3, 4, 5, 6] rfl
          have hFc := va_free (wc := (cx q ca C L f_13 w d st (ap_tg L C tg 4) hi (mi + (nI 1)) go)) hD hS hA [0, 1, 2, 3, 4, 5, 6, 7, 8, 9, 10, 11] rfl
          refine va_callv (va_runV (As := [.int x]) (rest := []) ⟨hx, hb, hml, hown, hts⟩ (c_X_makeRoom l dC dI q ca C L f_13 w d st (ap_tg L C tg 4) hi (mi + (nI 1)) go x H.size hfx_14 hI hz (by omega)) (cwV 1 hts gX1_request_X1_makeRoom rfl rfl rfl (by decide +kernel) ⟨Nat.le_of_ble_eq_true rfl, Nat.le_of_ble_eq_true rfl⟩) ⟨fun a U g mk q => by obtain ⟨q0, q1, qP, qK, qD, qN⟩ := q; exact ⟨q0, q1, qP, va_K.moved (u := U) (U := U.calling g mk a) (Vm.Alike.refl U.vm) qK, qD, va_tabs rfl (rfl : U.vm = (U.calling g mk a).vm) qN⟩, va_recv hKc hPc (ci := 1) (q0 := 0) rfl rfl, fun U hU hW => ⟨rfl, by rw [hU], by rw [hU]; exact hPc, va_K.moved hW.alike hKc, hDc.weaken (fun _ _ _ _ => trivial), va_Nw.warmM hW hN⟩⟩ rfl rfl hl.1 rfl (lv_room (Nat.le_of_ble_eq_true rfl)) dX1_request_70 ⟨Nat.le_of_ble_eq_true rfl, Nat.le_of_ble_eq_true rfl⟩) hS (fun q _ h => hFc q h) hFc (fun u t H1 locs ht hvm hw hB hz1 hk1 hS => ?_)
          obtain ⟨L1, w1, d1, st1, tg1, hi1, mi1, go1⟩ := u
          obtain ⟨f1, hf1, hP1, hK1, hD1⟩ := hB
          rw [ht] at hP1
          obtain ⟨f_15, ef_15⟩ : ∃ z, z = f1 := ⟨_, rfl⟩
          rw [← ef_15] at hf1 hP1 hD1
          clear ef_15 f1
          replace hw := hw.symm
          simp only [ap_tu, Prod.mk.injEq] at hw
          obtain ⟨rfl, rfl, rfl, rfl, rfl, rfl, rfl, rfl⟩ := hw
          have hfx_16 := hf1
          obtain ⟨hP, hD⟩ := va_join (wr := []) (w1 := (cx q ca C ((ap_mk w (ap_tg L C tg 4) x (L, d, st, go)).1) f_15 w ((ap_mk w (ap_tg L C tg 4) x (L, d, st, go)).2.1) ((ap_mk w (ap_tg L C tg 4) x (L, d, st, go)).2.2.1) (ap_tg L C tg 4) hi (mi + (nI 1)) ((ap_mk w (ap_tg L C tg 4) x (L, d, st, go)).2.2.2))) hP hD [0, 1, 2, 3, 4, 5, 6, 7, 8, 9, 10, 11] [] rfl rfl (by decide) (by decide) hk1 hFc hP1 hD1
          generalize H1 = H at hP hS ⊢
          replace hP : va_P (dC, dI) vwCl (cx q ca C ((ap_mk w (ap_tg L C tg 4) x (L, d, st, go)).1) f_15 w ((ap_mk w (ap_tg L C tg 4) x (L, d, st, go)).2.1) ((ap_mk w (ap_tg L C tg 4) x (L, d, st, go)).2.2.1) (ap_tg L C tg 4) hi (mi + (nI 1)) ((ap_mk w (ap_tg L C tg 4) x (L, d, st, go)).2.2.2)) H := hP
          replace hD : va_D A (cx q ca C ((ap_mk w (ap_tg L C tg 4) x (L, d, st, go)).1) f_15 w ((ap_mk w (ap_tg L C tg 4) x (L, d, st, go)).2.1) ((ap_mk w (ap_tg L C tg 4) x (L, d, st, go)).2.2.1) (ap_tg L C tg 4) hi (mi + (nI 1)) ((ap_mk w (ap_tg L C tg 4) x (L, d, st, go)).2.2.2)) := hD
          refine lv_aload_n hx hb dX1_request_73 rfl (lv_at hl 1 rfl) ?_
          refine lv_iload_n hx hb dX1_request_74 rfl (lv_at hl 2 rfl) ?_
          refine lv_iload_n hx hb dX1_request_75 rfl (lv_at hl 0 rfl) ?_
          have hPc := hP.sub (ws' := (cx q ca C ((ap_mk w (ap_tg L C tg 4) x (L, d, st, go)).1) f_15 w ((ap_mk w (ap_tg L C tg 4) x (L, d, st, go)).2.1) ((ap_mk w (ap_tg L C tg 4) x (L, d, st, go)).2.2.1) (ap_tg L C tg 4) hi (mi + (nI 1)) ((ap_mk w (ap_tg L C tg 4) x (L, d, st, go)).2.2.2))) [0, 1, 2, 3, 4, 5, 6, 7, 8, 9, 10, 11] rfl
          have hDc := hD.sub (ws' := (cx q ca C ((ap_mk w (ap_tg L C tg 4) x (L, d, st, go)).1) f_15 w ((ap_mk w (ap_tg L C tg 4) x (L, d, st, go)).2.1) ((ap_mk w (ap_tg L C tg 4) x (L, d, st, go)).2.2.1) (ap_tg L C tg 4) hi (mi + (nI 1)) ((ap_mk w (ap_tg L C tg 4) x (L, d, st, go)).2.2.2))) [0, 1, 2, 3, 4, 5, 6, 7, 8, 9, 10, 11] (by decide) rfl
          have hKc := hK.sub (tys' := (kx ca)) [0, 1, 2, 3, 4, 5, 6] rfl
          have hFc := va_free (wc := (cx q ca C ((ap_mk w (ap_tg L C tg 4) x (L, d, st, go)).1) f_15 w ((ap_mk w (ap_tg L C tg 4) x (L, d, st, go)).2.1) ((ap_mk w (ap_tg L C tg 4) x (L, d, st, go)).2.2.1) (ap_tg L C tg 4) hi (mi + (nI 1)) ((ap_mk w (ap_tg L C tg 4) x (L, d, st, go)).2.2.2))) hD hS hA [0, 1, 2, 3, 4, 5, 6, 7, 8, 9, 10, 11] rfl
          refine va_callv (va_runV (As := [.int x, .int (nI 4)]) (rest := []) ⟨hx, hb, hml, hown, hts⟩ (c_X_move4 l dC dI q ca C ((ap_mk w (ap_tg L C tg 4) x (L, d, st, go)).1) f_15 w ((ap_mk w (ap_tg L C tg 4) x (L, d, st, go)).2.1) ((ap_mk w (ap_tg L C tg 4) x (L, d, st, go)).2.2.1) (ap_tg L C tg 4) hi (mi + (nI 1)) ((ap_mk w (ap_tg L C tg 4) x (L, d, st, go)).2.2.2) x H.size hfx_16 hmki9 hmkz9 hx64) (cwV 2 hts gX1_request_X1_moveToCameAgain rfl rfl rfl (by decide +kernel) ⟨Nat.le_of_ble_eq_true rfl, Nat.le_of_ble_eq_true rfl⟩) ⟨fun a U g mk q => by obtain ⟨q0, q1, qP, qK, qD, qN⟩ := q; exact ⟨q0, q1, qP, va_K.moved (u := U) (U := U.calling g mk a) (Vm.Alike.refl U.vm) qK, qD, va_tabs rfl (rfl : U.vm = (U.calling g mk a).vm) qN⟩, va_recv hKc hPc (ci := 1) (q0 := 0) rfl rfl, fun U hU hW => ⟨rfl, by rw [hU], by rw [hU]; exact hPc, va_K.moved hW.alike hKc, hDc.weaken (fun _ _ _ _ => trivial), va_Nw.warmM hW hN⟩⟩ rfl rfl hl.1 rfl (lv_room (Nat.le_of_ble_eq_true rfl)) dX1_request_76 ⟨Nat.le_of_ble_eq_true rfl, Nat.le_of_ble_eq_true rfl⟩) hS (fun q _ h => hFc q h) hFc (fun u t H1 locs ht hvm hw hB hz1 hk1 hS => ?_)
          obtain ⟨L1, w1, d1, st1, tg1, hi1, mi1, go1⟩ := u
          obtain ⟨f1, hf1, hP1, hK1, hD1⟩ := hB
          rw [ht] at hP1
          cases hw
          obtain ⟨f_17, ef_17⟩ : ∃ z, z = f1 := ⟨_, rfl⟩
          rw [← ef_17] at hf1 hP1 hD1
          clear ef_17 f1
          have hfx_18 := hf1
          obtain ⟨hP, hD⟩ := va_join (wr := []) (w1 := (cx q ca C (ap_mv ((ap_mk w (ap_tg L C tg 4) x (L, d, st, go)).1) x 4 2) f_17 w ((ap_mk w (ap_tg L C tg 4) x (L, d, st, go)).2.1) ((ap_mk w (ap_tg L C tg 4) x (L, d, st, go)).2.2.1) (ap_tg L C tg 4) hi (mi + (nI 1)) ((ap_mk w (ap_tg L C tg 4) x (L, d, st, go)).2.2.2))) hP hD [0, 1, 2, 3, 4, 5, 6, 7, 8, 9, 10, 11] [] rfl rfl (by decide) (by decide) hk1 hFc hP1 hD1
          generalize H1 = H at hP hS ⊢
          replace hP : va_P (dC, dI) vwCl (cx q ca C (ap_mv ((ap_mk w (ap_tg L C tg 4) x (L, d, st, go)).1) x 4 2) f_17 w ((ap_mk w (ap_tg L C tg 4) x (L, d, st, go)).2.1) ((ap_mk w (ap_tg L C tg 4) x (L, d, st, go)).2.2.1) (ap_tg L C tg 4) hi (mi + (nI 1)) ((ap_mk w (ap_tg L C tg 4) x (L, d, st, go)).2.2.2)) H := hP
          replace hD : va_D A (cx q ca C (ap_mv ((ap_mk w (ap_tg L C tg 4) x (L, d, st, go)).1) x 4 2) f_17 w ((ap_mk w (ap_tg L C tg 4) x (L, d, st, go)).2.1) ((ap_mk w (ap_tg L C tg 4) x (L, d, st, go)).2.2.1) (ap_tg L C tg 4) hi (mi + (nI 1)) ((ap_mk w (ap_tg L C tg 4) x (L, d, st, go)).2.2.2)) := hD
          refine lv_aload_n hx hb dX1_request_79 rfl (lv_at hl 1 rfl) ?_
          refine lv_iload_n hx hb dX1_request_80 rfl (lv_at hl 2 rfl) ?_
          have hPc := hP.sub (ws' := (cx q ca C (ap_mv ((ap_mk w (ap_tg L C tg 4) x (L, d, st, go)).1) x 4 2) f_17 w ((ap_mk w (ap_tg L C tg 4) x (L, d, st, go)).2.1) ((ap_mk w (ap_tg L C tg 4) x (L, d, st, go)).2.2.1) (ap_tg L C tg 4) hi (mi + (nI 1)) ((ap_mk w (ap_tg L C tg 4) x (L, d, st, go)).2.2.2))) [0, 1, 2, 3, 4, 5, 6, 7, 8, 9, 10, 11] rfl
          have hDc := hD.sub (ws' := (cx q ca C (ap_mv ((ap_mk w (ap_tg L C tg 4) x (L, d, st, go)).1) x 4 2) f_17 w ((ap_mk w (ap_tg L C tg 4) x (L, d, st, go)).2.1) ((ap_mk w (ap_tg L C tg 4) x (L, d, st, go)).2.2.1) (ap_tg L C tg 4) hi (mi + (nI 1)) ((ap_mk w (ap_tg L C tg 4) x (L, d, st, go)).2.2.2))) [0, 1, 2, 3, 4, 5, 6, 7, 8, 9, 10, 11] (by decide) rfl
          have hKc := hK.sub (tys' := (kx ca)) [0, 1, 2, 3, 4, 5, 6] rfl
          have hFc := va_free (wc := (cx q ca C (ap_mv ((ap_mk w (ap_tg L C tg 4) x (L, d, st, go)).1) x 4 2) f_17 w ((ap_mk w (ap_tg L C tg 4) x (L, d, st, go)).2.1) ((ap_mk w (ap_tg L C tg 4) x (L, d, st, go)).2.2.1) (ap_tg L C tg 4) hi (mi + (nI 1)) ((ap_mk w (ap_tg L C tg 4) x (L, d, st, go)).2.2.2))) hD hS hA [0, 1, 2, 3, 4, 5, 6, 7, 8, 9, 10, 11] rfl
          refine va_callv (va_runV (As := [.int x]) (rest := []) ⟨hx, hb, hml, hown, hts⟩ (c_X_bringPage l dC dI q ca C (ap_mv ((ap_mk w (ap_tg L C tg 4) x (L, d, st, go)).1) x 4 2) f_17 w ((ap_mk w (ap_tg L C tg 4) x (L, d, st, go)).2.1) ((ap_mk w (ap_tg L C tg 4) x (L, d, st, go)).2.2.1) (ap_tg L C tg 4) hi (mi + (nI 1)) ((ap_mk w (ap_tg L C tg 4) x (L, d, st, go)).2.2.2) x H.size hfx_18 hx64) (cwV 1 hts gX1_request_X1_bringPage rfl rfl rfl (by decide +kernel) ⟨Nat.le_of_ble_eq_true rfl, Nat.le_of_ble_eq_true rfl⟩) ⟨fun a U g mk q => by obtain ⟨q0, q1, qP, qK, qD⟩ := q; exact ⟨q0, q1, qP, va_K.moved (u := U) (U := U.calling g mk a) (Vm.Alike.refl U.vm) qK, qD⟩, va_recv hKc hPc (ci := 1) (q0 := 0) rfl rfl, fun U hU hW => ⟨rfl, by rw [hU], by rw [hU]; exact hPc, va_K.moved hW.alike hKc, hDc.weaken (fun _ _ _ _ => trivial)⟩⟩ rfl rfl hl.1 rfl (lv_room (Nat.le_of_ble_eq_true rfl)) dX1_request_81 ⟨Nat.le_of_ble_eq_true rfl, Nat.le_of_ble_eq_true rfl⟩) hS (fun q _ h => hFc q h) hFc (fun u t H1 locs ht hvm hw hB hz1 hk1 hS => ?_)
          obtain ⟨L1, w1, d1, st1, tg1, hi1, mi1, go1⟩ := u
          obtain ⟨f1, hf1, hP1, hK1, hD1⟩ := hB
          rw [ht] at hP1
          cases hw
          obtain ⟨f_19, ef_19⟩ : ∃ z, z = f1 := ⟨_, rfl⟩
          rw [← ef_19] at hf1 hP1 hD1
          clear ef_19 f1
          have hfx_20 := hf1
          obtain ⟨hP, hD⟩ := va_join (wr := []) (w1 := (cx q ca C (ap_mv ((ap_mk w (ap_tg L C tg 4) x (L, d, st, go)).1) x 4 2) f_19 (upd w x.toNatClampNeg (((ap_mk w (ap_tg L C tg 4) x (L, d, st, go)).2.2.1) x.toNatClampNeg)) (upd ((ap_mk w (ap_tg L C tg 4) x (L, d, st, go)).2.1) x.toNatClampNeg 0) ((ap_mk w (ap_tg L C tg 4) x (L, d, st, go)).2.2.1) (ap_tg L C tg 4) hi (mi + (nI 1)) ((ap_mk w (ap_tg L C tg 4) x (L, d, st, go)).2.2.2))) hP hD [0, 1, 2, 3, 4, 5, 6, 7, 8, 9, 10, 11] [] rfl rfl (by decide) (by decide) hk1 hFc hP1 hD1
          generalize H1 = H at hP hS ⊢
          replace hP : va_P (dC, dI) vwCl (cx q ca C (ap_mv ((ap_mk w (ap_tg L C tg 4) x (L, d, st, go)).1) x 4 2) f_19 (upd w x.toNatClampNeg (((ap_mk w (ap_tg L C tg 4) x (L, d, st, go)).2.2.1) x.toNatClampNeg)) (upd ((ap_mk w (ap_tg L C tg 4) x (L, d, st, go)).2.1) x.toNatClampNeg 0) ((ap_mk w (ap_tg L C tg 4) x (L, d, st, go)).2.2.1) (ap_tg L C tg 4) hi (mi + (nI 1)) ((ap_mk w (ap_tg L C tg 4) x (L, d, st, go)).2.2.2)) H := hP
          replace hD : va_D A (cx q ca C (ap_mv ((ap_mk w (ap_tg L C tg 4) x (L, d, st, go)).1) x 4 2) f_19 (upd w x.toNatClampNeg (((ap_mk w (ap_tg L C tg 4) x (L, d, st, go)).2.2.1) x.toNatClampNeg)) (upd ((ap_mk w (ap_tg L C tg 4) x (L, d, st, go)).2.1) x.toNatClampNeg 0) ((ap_mk w (ap_tg L C tg 4) x (L, d, st, go)).2.2.1) (ap_tg L C tg 4) hi (mi + (nI 1)) ((ap_mk w (ap_tg L C tg 4) x (L, d, st, go)).2.2.2)) := hD
          exact W.vret hx hb hr (fun t ht hW => ⟨⟨(ap_mv (ap_mk w (ap_tg L C tg 4) x (L, d, st, go)).1 x 4 2, upd w x.toNatClampNeg ((ap_mk w (ap_tg L C tg 4) x (L, d, st, go)).2.2.1 x.toNatClampNeg), upd (ap_mk w (ap_tg L C tg 4) x (L, d, st, go)).2.1 x.toNatClampNeg 0, (ap_mk w (ap_tg L C tg 4) x (L, d, st, go)).2.2.1, ap_tg L C tg 4, hi, mi + 1, (ap_mk w (ap_tg L C tg 4) x (L, d, st, go)).2.2.2), rfl, hfin9, f_19, hfx_20, by rw [ht]; exact hP, va_K.moved hW.alike hK, hD⟩, hS.F ht⟩) hS.2.2 dX1_request_84
      · skip
        replace c_44 : (ap_wl L x) = 0 := (nI_eq (a := ap_wl L x) (b := 0) (by omega) (by omega)).mp c_44
        refine lv_aload_n hx hb dX1_request_47 rfl (lv_at hl 1 rfl) ?_
        refine lv_iload_n hx hb dX1_request_48 rfl (lv_at hl 2 rfl) ?_
        have ek9 : ap_wl L x = 0 := by omega
        rw [ek9] at hl
        have hfin9 : (va_up (ap_un w C tg x (L, d, st, go)).1 1 (x :: (ap_un w C tg x (L, d, st, go)).1 1), upd w x.toNatClampNeg ((ap_un w C tg x (L, d, st, go)).2.2.1 x.toNatClampNeg), upd (ap_un w C tg x (L, d, st, go)).2.1 x.toNatClampNeg 0, (ap_un w C tg x (L, d, st, go)).2.2.1, tg, hi, mi + 1, (ap_un w C tg x (L, d, st, go)).2.2.2) = ap_rq C x (L, w, d, st, tg, hi, mi, go) := by rw [ap_rq_new ek9]
        have hun9 := ap_un_ok (w := w) (d := d) (st := st) (go := go) hok ek9
        have hunz9 : ((ap_un w C tg x (L, d, st, go)).1 1).length < 64 := by omega
        have hPc := hP.sub (ws' := (cx q ca C L f_1 w d st tg hi (mi + (nI 1)) go)) [0, 1, 2, 3, 4, 5, 6, 7, 8, 9, 10, 11] rfl
        have hDc := hD.sub (ws' := (cx q ca C L f_1 w d st tg hi (mi + (nI 1)) go)) [0, 1, 2, 3, 4, 5, 6, 7, 8, 9, 10, 11] (by decide) rfl
        have hKc := hK.sub (tys' := (kx ca)) [0, 1, 2, 3, 4, 5, 6] rfl
        have hFc := va_free (wc := (cx q ca C L f_1 w d st tg hi (mi + (nI 1)) go)) hD hS hA [0, 1, 2, 3, 4, 5, 6, 7, 8, 9, 10, 11] rfl
        refine va_callv (va_runV (As := [.int x]) (rest := []) ⟨hx, hb, hml, hown, hts⟩ (c_X_unknown l dC dI q ca C L f_1 w d st tg hi (mi + (nI 1)) go x H.size hfx_2 hok) (cwV 1 hts gX1_request_X1_makeRoomForUnknown rfl rfl rfl (by decide +kernel) ⟨Nat.le_of_ble_eq_true rfl, Nat.le_of_ble_eq_true rfl⟩) ⟨fun a U g mk q => by obtain ⟨q0, q1, qP, qK, qD, qN⟩ := q; exact ⟨q0, q1, qP, va_K.moved (u := U) (U := U.calling g mk a) (Vm.Alike.refl U.vm) qK, qD, va_tabs rfl (rfl : U.vm = (U.calling g mk a).vm) qN⟩, va_recv hKc hPc (ci := 1) (q0 := 0) rfl rfl, fun U hU hW => ⟨rfl, by rw [hU], by rw [hU]; exact hPc, va_K.moved hW.alike hKc, hDc.weaken (fun _ _ _ _ => trivial), va_Nw.warmM hW hN⟩⟩ rfl rfl hl.1 rfl (lv_room (Nat.le_of_ble_eq_true rfl)) dX1_request_49 ⟨Nat.le_of_ble_eq_true rfl, Nat.le_of_ble_eq_true rfl⟩) hS (fun q _ h => hFc q h) hFc (fun u t H1 locs ht hvm hw hB hz1 hk1 hS => ?_)
        obtain ⟨L1, w1, d1, st1, tg1, hi1, mi1, go1⟩ := u
        obtain ⟨f1, hf1, hP1, hK1, hD1⟩ := hB
        rw [ht] at hP1
        obtain ⟨f_21, ef_21⟩ : ∃ z, z = f1 := ⟨_, rfl⟩
        rw [← ef_21] at hf1 hP1 hD1
        clear ef_21 f1
        replace hw := hw.symm
        simp only [ap_tu, Prod.mk.injEq] at hw
        obtain ⟨rfl, rfl, rfl, rfl, rfl, rfl, rfl, rfl⟩ := hw
        have hfx_22 := hf1
        obtain ⟨hP, hD⟩ := va_join (wr := []) (w1 := (cx q ca C ((ap_un w C tg x (L, d, st, go)).1) f_21 w ((ap_un w C tg x (L, d, st, go)).2.1) ((ap_un w C tg x (L, d, st, go)).2.2.1) tg hi (mi + (nI 1)) ((ap_un w C tg x (L, d, st, go)).2.2.2))) hP hD [0, 1, 2, 3, 4, 5, 6, 7, 8, 9, 10, 11] [] rfl rfl (by decide) (by decide) hk1 hFc hP1 hD1
        generalize H1 = H at hP hS ⊢
        replace hP : va_P (dC, dI) vwCl (cx q ca C ((ap_un w C tg x (L, d, st, go)).1) f_21 w ((ap_un w C tg x (L, d, st, go)).2.1) ((ap_un w C tg x (L, d, st, go)).2.2.1) tg hi (mi + (nI 1)) ((ap_un w C tg x (L, d, st, go)).2.2.2)) H := hP
        replace hD : va_D A (cx q ca C ((ap_un w C tg x (L, d, st, go)).1) f_21 w ((ap_un w C tg x (L, d, st, go)).2.1) ((ap_un w C tg x (L, d, st, go)).2.2.1) tg hi (mi + (nI 1)) ((ap_un w C tg x (L, d, st, go)).2.2.2)) := hD
        refine lv_aload_n hx hb dX1_request_52 rfl (lv_at hl 1 rfl) ?_
        refine va_get (D := (dC, dI)) (ci := 1) (v := .ref (q 1)) (C := RX1) (T := TX1) (N := 12) hx hb hts hwX1 hown hK hP 0 rfl rfl 1 (by decide) (hts (.fieldLink RX1 10 "ArcCache" "cameOnce" "LArcCache$AddressList;") (by decide +kernel)) (fun _ h9 => h9) rfl dX1_request_53 ?_
        refine lv_iload_n hx hb dX1_request_56 rfl (lv_at hl 2 rfl) ?_
        have hPc := hP.sub (ws' := (cal (q 1) (q 5) (ca 1) ((((ap_un w C tg x (L, d, st, go)).1) 1).length) (f_21 1))) [1, 2] rfl
        have hDc := hD.sub (ws' := (cal (q 1) (q 5) (ca 1) ((((ap_un w C tg x (L, d, st, go)).1) 1).length) (f_21 1))) [1, 2] (by decide) rfl
        have hKc := hK.sub (tys' := (kal (ca 1))) [0] rfl
        have hFc := va_free (wc := (cal (q 1) (q 5) (ca 1) ((((ap_un w C tg x (L, d, st, go)).1) 1).length) (f_21 1))) hD hS hA [1, 2] rfl
        refine va_callv (va_runV (As := [.int x]) (rest := []) ⟨hx, hb, hml, hown, hts⟩ (c_A_addNewest l dC dI (q 1) (q 5) (ca 1) (((ap_un w C tg x (L, d, st, go)).1) 1) (f_21 1) x H.size hunz9 (hfx_22 1 (by decide) (by decide))) (cwV 1 hts gX1_request_X0_addNewest rfl rfl rfl (by decide +kernel) ⟨Nat.le_of_ble_eq_true rfl, Nat.le_of_ble_eq_true rfl⟩) ⟨fun a U g mk q => by obtain ⟨q0, q1, qP, qK, qD, qN⟩ := q; exact ⟨q0, q1, qP, va_K.moved (u := U) (U := U.calling g mk a) (Vm.Alike.refl U.vm) qK, qD, va_tabs rfl (rfl : U.vm = (U.calling g mk a).vm) qN⟩, va_recv hKc hPc (ci := 0) (q0 := 0) rfl rfl, fun U hU hW => ⟨rfl, by rw [hU], by rw [hU]; exact hPc, va_K.moved hW.alike hKc, hDc.weaken (fun _ _ _ _ => trivial), va_Nw.warmM hW hN⟩⟩ rfl rfl hl.1 rfl (lv_room (Nat.le_of_ble_eq_true rfl)) dX1_request_57 ⟨Nat.le_of_ble_eq_true rfl, Nat.le_of_ble_eq_true rfl⟩) hS (fun q _ h => hFc q h) hFc (fun u t H1 locs ht hvm hw hB hz1 hk1 hS => ?_)
        obtain ⟨n1, f1⟩ := u
        obtain ⟨hP1, hK1, hD1⟩ := hB
        rw [ht] at hP1
        try dsimp only at hw hP1 hD1
        rw [al_add_in hx64] at hw
        obtain ⟨hn9, hf9⟩ := hw
        subst hn9
        obtain ⟨f_23, ef_23⟩ : ∃ z, z = f1 := ⟨_, rfl⟩
        rw [← ef_23] at hf9 hP1 hD1
        clear ef_23 f1
        have hfx_24 := fx_up (k := 1) hfx_22 hf9
        obtain ⟨hP, hD⟩ := va_join (wr := [(q 0, .inr (1, [.int (nI C), .ref (q 1), .ref (q 2), .ref (q 3), .ref (q 4), .ref (q 9), .ref (q 10), .ref (q 11), .int (nI tg), .int hi, .int (mi + (nI 1)), .int ((ap_un w C tg x (L, d, st, go)).2.2.2)])), (q 2, .inr (0, [.ref (q 6), .int (nI ((((ap_un w C tg x (L, d, st, go)).1) 2).length))])), (q 6, .inl (ca 2, 64, .inl (f_21 2))), (q 3, .inr (0, [.ref (q 7), .int (nI ((((ap_un w C tg x (L, d, st, go)).1) 3).length))])), (q 7, .inl (ca 3, 64, .inl (f_21 3))), (q 4, .inr (0, [.ref (q 8), .int (nI ((((ap_un w C tg x (L, d, st, go)).1) 4).length))])), (q 8, .inl (ca 4, 64, .inl (f_21 4))), (q 9, .inl (ca 5, 64, .inl w)), (q 10, .inl (ca 6, 64, .inl ((ap_un w C tg x (L, d, st, go)).2.1))), (q 11, .inl (ca 7, 64, .inl ((ap_un w C tg x (L, d, st, go)).2.2.1)))]) (w1 := (cal (q 1) (q 5) (ca 1) ((x :: ((ap_un w C tg x (L, d, st, go)).1) 1).length) f_23)) hP hD [1, 2] [0, 3, 4, 5, 6, 7, 8, 9, 10, 11] rfl rfl (by decide) (by decide) hk1 hFc hP1 hD1
        generalize H1 = H at hP hS ⊢
        replace hP := hP.sub (ws' := (cx q ca C (va_up ((ap_un w C tg x (L, d, st, go)).1) 1 (x :: ((ap_un w C tg x (L, d, st, go)).1) 1)) (va_up f_21 1 f_23) w ((ap_un w C tg x (L, d, st, go)).2.1) ((ap_un w C tg x (L, d, st, go)).2.2.1) tg hi (mi + (nI 1)) ((ap_un w C tg x (L, d, st, go)).2.2.2))) [0, 10, 11, 1, 2, 3, 4, 5, 6, 7, 8, 9] rfl
        replace hD := hD.sub (ws' := (cx q ca C (va_up ((ap_un w C tg x (L, d, st, go)).1) 1 (x :: ((ap_un w C tg x (L, d, st, go)).1) 1)) (va_up f_21 1 f_23) w ((ap_un w C tg x (L, d, st, go)).2.1) ((ap_un w C tg x (L, d, st, go)).2.2.1) tg hi (mi + (nI 1)) ((ap_un w C tg x (L, d, st, go)).2.2.2))) [0, 10, 11, 1, 2, 3, 4, 5, 6, 7, 8, 9] (by decide) rfl
        refine lv_goto (tgt := 79) hx hb dX1_request_60 (by decide) ?_
        refine lv_aload_n hx hb dX1_request_79 rfl (lv_at hl 1 rfl) ?_
        refine lv_iload_n hx hb dX1_request_80 rfl (lv_at hl 2 rfl) ?_
        have hPc := hP.sub (ws' := (cx q ca C (va_up ((ap_un w C tg x (L, d, st, go)).1) 1 (x :: ((ap_un w C tg x (L, d, st, go)).1) 1)) (va_up f_21 1 f_23) w ((ap_un w C tg x (L, d, st, go)).2.1) ((ap_un w C tg x (L, d, st, go)).2.2.1) tg hi (mi + (nI 1)) ((ap_un w C tg x (L, d, st, go)).2.2.2))) [0, 1, 2, 3, 4, 5, 6, 7, 8, 9, 10, 11] rfl
        have hDc := hD.sub (ws' := (cx q ca C (va_up ((ap_un w C tg x (L, d, st, go)).1) 1 (x :: ((ap_un w C tg x (L, d, st, go)).1) 1)) (va_up f_21 1 f_23) w ((ap_un w C tg x (L, d, st, go)).2.1) ((ap_un w C tg x (L, d, st, go)).2.2.1) tg hi (mi + (nI 1)) ((ap_un w C tg x (L, d, st, go)).2.2.2))) [0, 1, 2, 3, 4, 5, 6, 7, 8, 9, 10, 11] (by decide) rfl
        have hKc := hK.sub (tys' := (kx ca)) [0, 1, 2, 3, 4, 5, 6] rfl
        have hFc := va_free (wc := (cx q ca C (va_up ((ap_un w C tg x (L, d, st, go)).1) 1 (x :: ((ap_un w C tg x (L, d, st, go)).1) 1)) (va_up f_21 1 f_23) w ((ap_un w C tg x (L, d, st, go)).2.1) ((ap_un w C tg x (L, d, st, go)).2.2.1) tg hi (mi + (nI 1)) ((ap_un w C tg x (L, d, st, go)).2.2.2))) hD hS hA [0, 1, 2, 3, 4, 5, 6, 7, 8, 9, 10, 11] rfl
        refine va_callv (va_runV (As := [.int x]) (rest := []) ⟨hx, hb, hml, hown, hts⟩ (c_X_bringPage l dC dI q ca C (va_up ((ap_un w C tg x (L, d, st, go)).1) 1 (x :: ((ap_un w C tg x (L, d, st, go)).1) 1)) (va_up f_21 1 f_23) w ((ap_un w C tg x (L, d, st, go)).2.1) ((ap_un w C tg x (L, d, st, go)).2.2.1) tg hi (mi + (nI 1)) ((ap_un w C tg x (L, d, st, go)).2.2.2) x H.size hfx_24 hx64) (cwV 1 hts gX1_request_X1_bringPage rfl rfl rfl (by decide +kernel) ⟨Nat.le_of_ble_eq_true rfl, Nat.le_of_ble_eq_true rfl⟩) ⟨fun a U g mk q => by obtain ⟨q0, q1, qP, qK, qD⟩ := q; exact ⟨q0, q1, qP, va_K.moved (u := U) (U := U.calling g mk a) (Vm.Alike.refl U.vm) qK, qD⟩, va_recv hKc hPc (ci := 1) (q0 := 0) rfl rfl, fun U hU hW => ⟨rfl, by rw [hU], by rw [hU]; exact hPc, va_K.moved hW.alike hKc, hDc.weaken (fun _ _ _ _ => trivial)⟩⟩ rfl rfl hl.1 rfl (lv_room (Nat.le_of_ble_eq_true rfl)) dX1_request_81 ⟨Nat.le_of_ble_eq_true rfl, Nat.le_of_ble_eq_true rfl⟩) hS (fun q _ h => hFc q h) hFc (fun u t H1 locs ht hvm hw hB hz1 hk1 hS => ?_)
        obtain ⟨L1, w1, d1, st1, tg1, hi1, mi1, go1⟩ := u
        obtain ⟨f1, hf1, hP1, hK1, hD1⟩ := hB
        rw [ht] at hP1
        cases hw
        obtain ⟨f_25, ef_25⟩ : ∃ z, z = f1 := ⟨_, rfl⟩
        rw [← ef_25] at hf1 hP1 hD1
        clear ef_25 f1
        have hfx_26 := hf1
        obtain ⟨hP, hD⟩ := va_join (wr := []) (w1 := (cx q ca C (va_up ((ap_un w C tg x (L, d, st, go)).1) 1 (x :: ((ap_un w C tg x (L, d, st, go)).1) 1)) f_25 (upd w x.toNatClampNeg (((ap_un w C tg x (L, d, st, go)).2.2.1) x.toNatClampNeg)) (upd ((ap_un w C tg x (L, d, st, go)).2.1) x.toNatClampNeg 0) ((ap_un w C tg x (L, d, st, go)).2.2.1) tg hi (mi + (nI 1)) ((ap_un w C tg x (L, d, st, go)).2.2.2))) hP hD [0, 1, 2, 3, 4, 5, 6, 7, 8, 9, 10, 11] [] rfl rfl (by decide) (by decide) hk1 hFc hP1 hD1
        generalize H1 = H at hP hS ⊢
        replace hP : va_P (dC, dI) vwCl (cx q ca C (va_up ((ap_un w C tg x (L, d, st, go)).1) 1 (x :: ((ap_un w C tg x (L, d, st, go)).1) 1)) f_25 (upd w x.toNatClampNeg (((ap_un w C tg x (L, d, st, go)).2.2.1) x.toNatClampNeg)) (upd ((ap_un w C tg x (L, d, st, go)).2.1) x.toNatClampNeg 0) ((ap_un w C tg x (L, d, st, go)).2.2.1) tg hi (mi + (nI 1)) ((ap_un w C tg x (L, d, st, go)).2.2.2)) H := hP
        replace hD : va_D A (cx q ca C (va_up ((ap_un w C tg x (L, d, st, go)).1) 1 (x :: ((ap_un w C tg x (L, d, st, go)).1) 1)) f_25 (upd w x.toNatClampNeg (((ap_un w C tg x (L, d, st, go)).2.2.1) x.toNatClampNeg)) (upd ((ap_un w C tg x (L, d, st, go)).2.1) x.toNatClampNeg 0) ((ap_un w C tg x (L, d, st, go)).2.2.1) tg hi (mi + (nI 1)) ((ap_un w C tg x (L, d, st, go)).2.2.2)) := hD
        exact W.vret hx hb hr (fun t ht hW => ⟨⟨(va_up (ap_un w C tg x (L, d, st, go)).1 1 (x :: (ap_un w C tg x (L, d, st, go)).1 1), upd w x.toNatClampNeg ((ap_un w C tg x (L, d, st, go)).2.2.1 x.toNatClampNeg), upd (ap_un w C tg x (L, d, st, go)).2.1 x.toNatClampNeg 0, (ap_un w C tg x (L, d, st, go)).2.2.1, tg, hi, mi + 1, (ap_un w C tg x (L, d, st, go)).2.2.2), rfl, hfin9, f_25, hfx_26, by rw [ht]; exact hP, va_K.moved hW.alike hK, hD⟩, hS.F ht⟩) hS.2.2 dX1_request_84
    · skip
      replace c_13 : (ap_wl L x) = 2 := (nI_eq (a := ap_wl L x) (b := 2) (by omega) (by omega)).mp c_13
      have ek9 : ap_wl L x = 2 := by omega
      rw [ek9] at hl
      have hfin9 : (ap_mv L x 2 2, w, d, st, tg, hi + 1, mi, go) = ap_rq C x (L, w, d, st, tg, hi, mi, go) := by rw [ap_rq_hit (Or.inr ek9), ek9]
      refine lv_aload_n hx hb dX1_request_16 rfl (lv_at hl 1 rfl) ?_
      refine lv_dup hx hb dX1_request_17 rfl ?_
      refine va_get (D := (dC, dI)) (ci := 1) (v := .int hi) (C := RX1) (T := TX1) (N := 12) hx hb hts hwX1 hown hK hP 0 rfl rfl 9 (by decide) (hts (.fieldLink RX1 58 "ArcCache" "hitCount" "I") (by decide +kernel)) (fun _ h9 => h9) rfl dX1_request_18 ?_
      refine lv_iconst (v := nI 1) hx hb dX1_request_21 (by decide) ?_
      refine lv_iadd hx hb dX1_request_22 ?_
      refine va_put (D := (dC, dI)) (ci := 1) (v := .int (hi + (nI 1))) (ty := .int) (C := RX1) (T := TX1) (N := 12) hx hb hts hwX1 tyX1 tyX1_ok nmX1 hown hK hP hD hS 0 rfl rfl 9 (by decide) (hts (.fieldLink RX1 58 "ArcCache" "hitCount" "I") (by decide +kernel)) (fun _ h9 => h9) rfl (by decide +kernel) rfl rfl (Nat.le_of_ble_eq_true rfl) dX1_request_23 (fun H locs hP hD hS => ?_)
      replace hP : va_P (dC, dI) vwCl (cx q ca C L f_1 w d st tg (hi + (nI 1)) mi go) H := hP
      replace hD : va_D A (cx q ca C L f_1 w d st tg (hi + (nI 1)) mi go) := hD
      refine lv_aload_n hx hb dX1_request_26 rfl (lv_at hl 1 rfl) ?_
      refine lv_iload_n hx hb dX1_request_27 rfl (lv_at hl 2 rfl) ?_
      refine lv_iload_n hx hb dX1_request_28 rfl (lv_at hl 0 rfl) ?_
      have hPc := hP.sub (ws' := (cx q ca C L f_1 w d st tg (hi + (nI 1)) mi go)) [0, 1, 2, 3, 4, 5, 6, 7, 8, 9, 10, 11] rfl
      have hDc := hD.sub (ws' := (cx q ca C L f_1 w d st tg (hi + (nI 1)) mi go)) [0, 1, 2, 3, 4, 5, 6, 7, 8, 9, 10, 11] (by decide) rfl
      have hKc := hK.sub (tys' := (kx ca)) [0, 1, 2, 3, 4, 5, 6] rfl
      have hFc := va_free (wc := (cx q ca C L f_1 w d st tg (hi + (nI 1)) mi go)) hD hS hA [0, 1, 2, 3, 4, 5, 6, 7, 8, 9, 10, 11] rfl
      refine va_callv (va_runV (As := [.int x, .int (nI 2)]) (rest := []) ⟨hx, hb, hml, hown, hts⟩ (c_X_move2 l dC dI q ca C L f_1 w d st tg (hi + (nI 1)) mi go x H.size hfx_2 hI hz hx64) (cwV 2 hts gX1_request_X1_moveToCameAgain rfl rfl rfl (by decide +kernel) ⟨Nat.le_of_ble_eq_true rfl, Nat.le_of_ble_eq_true rfl⟩) ⟨fun a U g mk q => by obtain ⟨q0, q1, qP, qK, qD, qN⟩ := q; exact ⟨q0, q1, qP, va_K.moved (u := U) (U := U.calling g mk a) (Vm.Alike.refl U.vm) qK, qD, va_tabs rfl (rfl : U.vm = (U.calling g mk a).vm) qN⟩, va_recv hKc hPc (ci := 1) (q0 := 0) rfl rfl, fun U hU hW => ⟨rfl, by rw [hU], by rw [hU]; exact hPc, va_K.moved hW.alike hKc, hDc.weaken (fun _ _ _ _ => trivial), va_Nw.warmM hW hN⟩⟩ rfl rfl hl.1 rfl (lv_room (Nat.le_of_ble_eq_true rfl)) dX1_request_29 ⟨Nat.le_of_ble_eq_true rfl, Nat.le_of_ble_eq_true rfl⟩) hS (fun q _ h => hFc q h) hFc (fun u t H1 locs ht hvm hw hB hz1 hk1 hS => ?_)
      obtain ⟨L1, w1, d1, st1, tg1, hi1, mi1, go1⟩ := u
      obtain ⟨f1, hf1, hP1, hK1, hD1⟩ := hB
      rw [ht] at hP1
      cases hw
      obtain ⟨f_27, ef_27⟩ : ∃ z, z = f1 := ⟨_, rfl⟩
      rw [← ef_27] at hf1 hP1 hD1
      clear ef_27 f1
      have hfx_28 := hf1
      obtain ⟨hP, hD⟩ := va_join (wr := []) (w1 := (cx q ca C (ap_mv L x 2 2) f_27 w d st tg (hi + (nI 1)) mi go)) hP hD [0, 1, 2, 3, 4, 5, 6, 7, 8, 9, 10, 11] [] rfl rfl (by decide) (by decide) hk1 hFc hP1 hD1
      generalize H1 = H at hP hS ⊢
      replace hP : va_P (dC, dI) vwCl (cx q ca C (ap_mv L x 2 2) f_27 w d st tg (hi + (nI 1)) mi go) H := hP
      replace hD : va_D A (cx q ca C (ap_mv L x 2 2) f_27 w d st tg (hi + (nI 1)) mi go) := hD
      exact W.vret hx hb hr (fun t ht hW => ⟨⟨(ap_mv L x 2 2, w, d, st, tg, hi + 1, mi, go), rfl, hfin9, f_27, hfx_28, by rw [ht]; exact hP, va_K.moved hW.alike hK, hD⟩, hS.F ht⟩) hS.2.2 dX1_request_32
