-- THE CLASS, fifth part (laid by wip/gen/xx5.py)
theorem al_l14 {x : Int32} (h : ¬ (x < nI 1 ∨ nI 4 < x)) : x = nI 1 ∨ x = nI 2 ∨ x = nI 3 ∨ x = nI 4 := by
  have h1 : ¬ x < nI 1 := fun a => h (Or.inl a)
  have h2 : ¬ nI 4 < x := fun a => h (Or.inr a)
  have e1 : ¬ x.toInt < 1 := fun a => h1 (Int32.lt_iff_toInt_lt.mpr a)
  have e2 : ¬ 4 < x.toInt := fun a => h2 (Int32.lt_iff_toInt_lt.mpr a)
  have : x.toInt = 1 ∨ x.toInt = 2 ∨ x.toInt = 3 ∨ x.toInt = 4 := by omega
  rcases this with e | e | e | e
  · exact Or.inl (Int32.toInt_inj.mp e)
  · exact Or.inr (Or.inl (Int32.toInt_inj.mp e))
  · exact Or.inr (Or.inr (Or.inl (Int32.toInt_inj.mp e)))
  · exact Or.inr (Or.inr (Or.inr (Int32.toInt_inj.mp e)))
def ap_at (L : Nat → List Int32) (x y : Int32) : Int32 := if x < nI 1 ∨ nI 4 < x then -1 else al_at (L x.toNatClampNeg) y
def ap_len (L : Nat → List Int32) (x : Int32) : Int32 := if x < nI 1 ∨ nI 4 < x then -1 else nI (L x.toNatClampNeg).length
def ap_st (st : Nat → Int32) (x : Int32) : Int32 := if x < 0 ∨ nI 64 ≤ x then 0 else st x.toNatClampNeg
def ap_dy (d : Nat → Int32) (x : Int32) : Int32 := if x < 0 ∨ nI 64 ≤ x then 0 else if d x.toNatClampNeg = 0 then 0 else 1
abbrev cfa (a : Nat) (cA : ClassId) (f : Nat → Int32) : va_W := [(a, .inl (cA, 64, .inl f))]
set_option maxHeartbeats 4000000 in
set_option maxRecDepth 100000 in
theorem c_X_target (l : Launch) (dC : Nat → ClassId) (dI : Nat → Nat → Nat) (q : Nat → Nat) (ca : Nat → ClassId) (C : Nat) (L : Nat → List Int32) (f : Nat → Nat → Int32) (w d st : Nat → Int32) (tg : Nat) (hi mi go : Int32)  (sz : Nat) (hf : fx_ok f L) : Met l yX1_target wsX1_target ({ frames := 0, cells := 0, slots := 0, locals := 0 }) (va_Pc [.ref (q 0)] (fun U => U.heap.size = sz ∧ va_P (dC, dI) vwCl (cx q ca C L f w d st tg hi mi go) U.heap ∧ va_K (dC, dI) vwCl (kx ca) U ∧ va_D (fun _ => True) (cx q ca C L f w d st tg hi mi go))) (va_Qi (fun (r : Int32) (u : ap_U) => r = nI tg ∧ u = (L, w, d, st, tg, hi, mi, go)) (at_X dC dI (va_A (cx q ca C L f w d st tg hi mi go) sz) q ca C) (va_A (cx q ca C L f w d st tg hi mi go) sz)) 0 0 (va_A (cx q ca C L f w d st tg hi mi go) sz) := by
  refine Met.ofW (cc := cX1_target) (maxL := 1) (ret := (some .int)) (by decide) rfl ?_
  intro p e s m args below meth c s₁ B hml hv
  obtain ⟨rfl, hsz, hP, hK, hD0⟩ := hv
  have hx := B.exec
  have hb := B.bytes
  have hr := B.returns
  have hts := atoms_spec (ws := wsX1_target) B.pre
  have hown : s.vm.findClass RX1 = some m.cls := findClass_of_methodNamed B.named
  have hlocks := B.notSynchronized
  have hwX1 : ∀ w ∈ u_ws RX1 TX1 12, w ∈ wsX1_target := by decide +kernel
  subst hsz
  have hD := hD0.self (sz := s.heap.size)
  generalize hAe : va_A (cx q ca C L f w d st tg hi mi go) s.heap.size = A at hD ⊢
  have hA : ∀ q : Nat, s.heap.size ≤ q → A q := fun q h => by rw [← hAe]; exact Or.inr h
  have hS0 : ∀ H, s.heap = H → va_S A s.heap H [] := fun H h => by subst h; exact va_S.rf
  have hl := lv_entry ([.ref (q 0)]) (n := 1) (Nat.le_of_ble_eq_true rfl)
  rw [lg_entry_eq]
  generalize (lg_sl ([.ref (q 0)]) ++ List.replicate (1 - (lg_sl ([.ref (q 0)])).length) Slot.unset).toArray = ls at hl ⊢
  have hl : lv_has ls 1 [(0, .ref (q 0))] := hl
  generalize hHe : s.heap = H at hP ⊢
  have hS := hS0 H hHe
  refine lv_aload_n hx hb dX1_target_0 rfl (lv_at hl 0 rfl) ?_
  refine va_get (D := (dC, dI)) (ci := 1) (v := .int (nI tg)) (C := RX1) (T := TX1) (N := 12) hx hb hts hwX1 hown hK hP 0 rfl rfl 8 (by decide) (hts (.fieldLink RX1 55 "ArcCache" "targetCount" "I") (by decide +kernel)) (fun _ h9 => h9) rfl dX1_target_1 ?_
  exact W.iret (v := nI tg) hx hb hr (fun t ht hW => ⟨⟨nI tg, (L, w, d, st, tg, hi, mi, go), rfl, ⟨rfl, rfl⟩, f, hf, by rw [ht]; exact hP, va_K.moved hW.alike hK, hD⟩, hS.F ht⟩) hS.2.2 dX1_target_4
set_option maxHeartbeats 4000000 in
set_option maxRecDepth 100000 in
theorem c_X_hits (l : Launch) (dC : Nat → ClassId) (dI : Nat → Nat → Nat) (q : Nat → Nat) (ca : Nat → ClassId) (C : Nat) (L : Nat → List Int32) (f : Nat → Nat → Int32) (w d st : Nat → Int32) (tg : Nat) (hi mi go : Int32)  (sz : Nat) (hf : fx_ok f L) : Met l yX1_hits wsX1_hits ({ frames := 0, cells := 0, slots := 0, locals := 0 }) (va_Pc [.ref (q 0)] (fun U => U.heap.size = sz ∧ va_P (dC, dI) vwCl (cx q ca C L f w d st tg hi mi go) U.heap ∧ va_K (dC, dI) vwCl (kx ca) U ∧ va_D (fun _ => True) (cx q ca C L f w d st tg hi mi go))) (va_Qi (fun (r : Int32) (u : ap_U) => r = hi ∧ u = (L, w, d, st, tg, hi, mi, go)) (at_X dC dI (va_A (cx q ca C L f w d st tg hi mi go) sz) q ca C) (va_A (cx q ca C L f w d st tg hi mi go) sz)) 0 0 (va_A (cx q ca C L f w d st tg hi mi go) sz) := by
  refine Met.ofW (cc := cX1_hits) (maxL := 1) (ret := (some .int)) (by decide) rfl ?_
  intro p e s m args below meth c s₁ B hml hv
  obtain ⟨rfl, hsz, hP, hK, hD0⟩ := hv
  have hx := B.exec
  have hb := B.bytes
  have hr := B.returns
  have hts := atoms_spec (ws := wsX1_hits) B.pre
  have hown : s.vm.findClass RX1 = some m.cls := findClass_of_methodNamed B.named
  have hlocks := B.notSynchronized
  have hwX1 : ∀ w ∈ u_ws RX1 TX1 12, w ∈ wsX1_hits := by decide +kernel
  subst hsz
  have hD := hD0.self (sz := s.heap.size)
  generalize hAe : va_A (cx q ca C L f w d st tg hi mi go) s.heap.size = A at hD ⊢
  have hA : ∀ q : Nat, s.heap.size ≤ q → A q := fun q h => by rw [← hAe]; exact Or.inr h
  have hS0 : ∀ H, s.heap = H → va_S A s.heap H [] := fun H h => by subst h; exact va_S.rf
  have hl := lv_entry ([.ref (q 0)]) (n := 1) (Nat.le_of_ble_eq_true rfl)
  rw [lg_entry_eq]
  generalize (lg_sl ([.ref (q 0)]) ++ List.replicate (1 - (lg_sl ([.ref (q 0)])).length) Slot.unset).toArray = ls at hl ⊢
  have hl : lv_has ls 1 [(0, .ref (q 0))] := hl
  generalize hHe : s.heap = H at hP ⊢
  have hS := hS0 H hHe
  refine lv_aload_n hx hb dX1_hits_0 rfl (lv_at hl 0 rfl) ?_
  refine va_get (D := (dC, dI)) (ci := 1) (v := .int hi) (C := RX1) (T := TX1) (N := 12) hx hb hts hwX1 hown hK hP 0 rfl rfl 9 (by decide) (hts (.fieldLink RX1 58 "ArcCache" "hitCount" "I") (by decide +kernel)) (fun _ h9 => h9) rfl dX1_hits_1 ?_
  exact W.iret (v := hi) hx hb hr (fun t ht hW => ⟨⟨hi, (L, w, d, st, tg, hi, mi, go), rfl, ⟨rfl, rfl⟩, f, hf, by rw [ht]; exact hP, va_K.moved hW.alike hK, hD⟩, hS.F ht⟩) hS.2.2 dX1_hits_4
set_option maxHeartbeats 4000000 in
set_option maxRecDepth 100000 in
theorem c_X_misses (l : Launch) (dC : Nat → ClassId) (dI : Nat → Nat → Nat) (q : Nat → Nat) (ca : Nat → ClassId) (C : Nat) (L : Nat → List Int32) (f : Nat → Nat → Int32) (w d st : Nat → Int32) (tg : Nat) (hi mi go : Int32)  (sz : Nat) (hf : fx_ok f L) : Met l yX1_misses wsX1_misses ({ frames := 0, cells := 0, slots := 0, locals := 0 }) (va_Pc [.ref (q 0)] (fun U => U.heap.size = sz ∧ va_P (dC, dI) vwCl (cx q ca C L f w d st tg hi mi go) U.heap ∧ va_K (dC, dI) vwCl (kx ca) U ∧ va_D (fun _ => True) (cx q ca C L f w d st tg hi mi go))) (va_Qi (fun (r : Int32) (u : ap_U) => r = mi ∧ u = (L, w, d, st, tg, hi, mi, go)) (at_X dC dI (va_A (cx q ca C L f w d st tg hi mi go) sz) q ca C) (va_A (cx q ca C L f w d st tg hi mi go) sz)) 0 0 (va_A (cx q ca C L f w d st tg hi mi go) sz) := by
  refine Met.ofW (cc := cX1_misses) (maxL := 1) (ret := (some .int)) (by decide) rfl ?_
  intro p e s m args below meth c s₁ B hml hv
  obtain ⟨rfl, hsz, hP, hK, hD0⟩ := hv
  have hx := B.exec
  have hb := B.bytes
  have hr := B.returns
  have hts := atoms_spec (ws := wsX1_misses) B.pre
  have hown : s.vm.findClass RX1 = some m.cls := findClass_of_methodNamed B.named
  have hlocks := B.notSynchronized
  have hwX1 : ∀ w ∈ u_ws RX1 TX1 12, w ∈ wsX1_misses := by decide +kernel
  subst hsz
  have hD := hD0.self (sz := s.heap.size)
  generalize hAe : va_A (cx q ca C L f w d st tg hi mi go) s.heap.size = A at hD ⊢
  have hA : ∀ q : Nat, s.heap.size ≤ q → A q := fun q h => by rw [← hAe]; exact Or.inr h
  have hS0 : ∀ H, s.heap = H → va_S A s.heap H [] := fun H h => by subst h; exact va_S.rf
  have hl := lv_entry ([.ref (q 0)]) (n := 1) (Nat.le_of_ble_eq_true rfl)
  rw [lg_entry_eq]
  generalize (lg_sl ([.ref (q 0)]) ++ List.replicate (1 - (lg_sl ([.ref (q 0)])).length) Slot.unset).toArray = ls at hl ⊢
  have hl : lv_has ls 1 [(0, .ref (q 0))] := hl
  generalize hHe : s.heap = H at hP ⊢
  have hS := hS0 H hHe
  refine lv_aload_n hx hb dX1_misses_0 rfl (lv_at hl 0 rfl) ?_
  refine va_get (D := (dC, dI)) (ci := 1) (v := .int mi) (C := RX1) (T := TX1) (N := 12) hx hb hts hwX1 hown hK hP 0 rfl rfl 10 (by decide) (hts (.fieldLink RX1 61 "ArcCache" "missCount" "I") (by decide +kernel)) (fun _ h9 => h9) rfl dX1_misses_1 ?_
  exact W.iret (v := mi) hx hb hr (fun t ht hW => ⟨⟨mi, (L, w, d, st, tg, hi, mi, go), rfl, ⟨rfl, rfl⟩, f, hf, by rw [ht]; exact hP, va_K.moved hW.alike hK, hD⟩, hS.F ht⟩) hS.2.2 dX1_misses_4
set_option maxHeartbeats 4000000 in
set_option maxRecDepth 100000 in
theorem c_X_gone (l : Launch) (dC : Nat → ClassId) (dI : Nat → Nat → Nat) (q : Nat → Nat) (ca : Nat → ClassId) (C : Nat) (L : Nat → List Int32) (f : Nat → Nat → Int32) (w d st : Nat → Int32) (tg : Nat) (hi mi go : Int32)  (sz : Nat) (hf : fx_ok f L) : Met l yX1_gone wsX1_gone ({ frames := 0, cells := 0, slots := 0, locals := 0 }) (va_Pc [.ref (q 0)] (fun U => U.heap.size = sz ∧ va_P (dC, dI) vwCl (cx q ca C L f w d st tg hi mi go) U.heap ∧ va_K (dC, dI) vwCl (kx ca) U ∧ va_D (fun _ => True) (cx q ca C L f w d st tg hi mi go))) (va_Qi (fun (r : Int32) (u : ap_U) => r = go ∧ u = (L, w, d, st, tg, hi, mi, go)) (at_X dC dI (va_A (cx q ca C L f w d st tg hi mi go) sz) q ca C) (va_A (cx q ca C L f w d st tg hi mi go) sz)) 0 0 (va_A (cx q ca C L f w d st tg hi mi go) sz) := by
  refine Met.ofW (cc := cX1_gone) (maxL := 1) (ret := (some .int)) (by decide) rfl ?_
  intro p e s m args below meth c s₁ B hml hv
  obtain ⟨rfl, hsz, hP, hK, hD0⟩ := hv
  have hx := B.exec
  have hb := B.bytes
  have hr := B.returns
  have hts := atoms_spec (ws := wsX1_gone) B.pre
  have hown : s.vm.findClass RX1 = some m.cls := findClass_of_methodNamed B.named
  have hlocks := B.notSynchronized
  have hwX1 : ∀ w ∈ u_ws RX1 TX1 12, w ∈ wsX1_gone := by decide +kernel
  subst hsz
  have hD := hD0.self (sz := s.heap.size)
  generalize hAe : va_A (cx q ca C L f w d st tg hi mi go) s.heap.size = A at hD ⊢
  have hA : ∀ q : Nat, s.heap.size ≤ q → A q := fun q h => by rw [← hAe]; exact Or.inr h
  have hS0 : ∀ H, s.heap = H → va_S A s.heap H [] := fun H h => by subst h; exact va_S.rf
  have hl := lv_entry ([.ref (q 0)]) (n := 1) (Nat.le_of_ble_eq_true rfl)
  rw [lg_entry_eq]
  generalize (lg_sl ([.ref (q 0)]) ++ List.replicate (1 - (lg_sl ([.ref (q 0)])).length) Slot.unset).toArray = ls at hl ⊢
  have hl : lv_has ls 1 [(0, .ref (q 0))] := hl
  generalize hHe : s.heap = H at hP ⊢
  have hS := hS0 H hHe
  refine lv_aload_n hx hb dX1_gone_0 rfl (lv_at hl 0 rfl) ?_
  refine va_get (D := (dC, dI)) (ci := 1) (v := .int go) (C := RX1) (T := TX1) (N := 12) hx hb hts hwX1 hown hK hP 0 rfl rfl 11 (by decide) (hts (.fieldLink RX1 64 "ArcCache" "goneCount" "I") (by decide +kernel)) (fun _ h9 => h9) rfl dX1_gone_1 ?_
  exact W.iret (v := go) hx hb hr (fun t ht hW => ⟨⟨go, (L, w, d, st, tg, hi, mi, go), rfl, ⟨rfl, rfl⟩, f, hf, by rw [ht]; exact hP, va_K.moved hW.alike hK, hD⟩, hS.F ht⟩) hS.2.2 dX1_gone_4
set_option maxHeartbeats 4000000 in
set_option maxRecDepth 100000 in
theorem c_X_store (l : Launch) (dC : Nat → ClassId) (dI : Nat → Nat → Nat) (q : Nat → Nat) (ca : Nat → ClassId) (C : Nat) (L : Nat → List Int32) (f : Nat → Nat → Int32) (w d st : Nat → Int32) (tg : Nat) (hi mi go : Int32) (x : Int32) (sz : Nat) (hf : fx_ok f L) : Met l yX1_store wsX1_store ({ frames := 1, cells := 0, slots := 0, locals := 20 }) (va_Pc [.ref (q 0), .int x] (fun U => U.heap.size = sz ∧ va_P (dC, dI) vwCl (cx q ca C L f w d st tg hi mi go) U.heap ∧ va_K (dC, dI) vwCl (kx ca) U ∧ va_D (fun _ => True) (cx q ca C L f w d st tg hi mi go))) (va_Qi (fun (r : Int32) (u : ap_U) => r = ap_st st x ∧ u = (L, w, d, st, tg, hi, mi, go)) (at_X dC dI (va_A (cx q ca C L f w d st tg hi mi go) sz) q ca C) (va_A (cx q ca C L f w d st tg hi mi go) sz)) 0 0 (va_A (cx q ca C L f w d st tg hi mi go) sz) := by
  refine Met.ofW (cc := cX1_store) (maxL := 2) (ret := (some .int)) (by decide) rfl ?_
  intro p e s m args below meth c s₁ B hml hv
  obtain ⟨rfl, hsz, hP, hK, hD0⟩ := hv
  have hx := B.exec
  have hb := B.bytes
  have hr := B.returns
  have hts := atoms_spec (ws := wsX1_store) B.pre
  have hown : s.vm.findClass RX1 = some m.cls := findClass_of_methodNamed B.named
  have hlocks := B.notSynchronized
  have hwX1 : ∀ w ∈ u_ws RX1 TX1 12, w ∈ wsX1_store := by decide +kernel
  subst hsz
  have hD := hD0.self (sz := s.heap.size)
  generalize hAe : va_A (cx q ca C L f w d st tg hi mi go) s.heap.size = A at hD ⊢
  have hA : ∀ q : Nat, s.heap.size ≤ q → A q := fun q h => by rw [← hAe]; exact Or.inr h
  have hS0 : ∀ H, s.heap = H → va_S A s.heap H [] := fun H h => by subst h; exact va_S.rf
  have hl := lv_entry ([.ref (q 0), .int x]) (n := 2) (Nat.le_of_ble_eq_true rfl)
  rw [lg_entry_eq]
  generalize (lg_sl ([.ref (q 0), .int x]) ++ List.replicate (2 - (lg_sl ([.ref (q 0), .int x])).length) Slot.unset).toArray = ls at hl ⊢
  have hl : lv_has ls 2 [(0, .ref (q 0)), (1, .int x)] := hl
  generalize hHe : s.heap = H at hP ⊢
  have hS := hS0 H hHe
  refine lv_iload_n hx hb dX1_store_0 rfl (lv_at hl 1 rfl) ?_
  have hPc := hP.sub (ws' := []) [] rfl
  have hDc := hD.sub (ws' := []) [] (by decide) rfl
  have hFc := va_free (wc := []) hD hS hA [] rfl
  refine va_calli (va_runS (As := [.int x]) (rest := []) ⟨hx, hb, hml, hown, hts⟩ (c_X_isAddress l dC dI x H.size) (va_cwS 1 hts gX1_store_X1_isAddress rfl rfl rfl (by decide +kernel) ⟨Nat.le_of_ble_eq_true rfl, Nat.le_of_ble_eq_true rfl⟩) ⟨fun a U g mk q => by obtain ⟨q0, q1⟩ := q; exact ⟨q0, q1⟩, fun U hU hW => ⟨rfl, by show U.heap.size = _; rw [hU]⟩⟩ rfl rfl hl.1 rfl (lv_room (Nat.le_of_ble_eq_true rfl)) dX1_store_1 ⟨Nat.le_of_ble_eq_true rfl, Nat.le_of_ble_eq_true rfl⟩) hS (fun q _ h => hFc q h) hFc (fun r u t H1 locs ht hvm hw hB hz1 hk1 hS => ?_)
  obtain ⟨hP, hD⟩ := va_join (wr := (cx q ca C L f w d st tg hi mi go)) (w1 := []) hP hD [] [0, 1, 2, 3, 4, 5, 6, 7, 8, 9, 10, 11] rfl rfl (by decide) (by decide) hk1 hFc (fun k q h => by simp at h) ⟨fun i j p q h => by simp at h, fun k q h => by simp at h⟩
  generalize H1 = H at hP hS ⊢
  replace hP : va_P (dC, dI) vwCl (cx q ca C L f w d st tg hi mi go) H := hP
  replace hD : va_D A (cx q ca C L f w d st tg hi mi go) := hD
  by_cases hyes9 : x < 0 ∨ nI 64 ≤ x
  · rw [if_pos hyes9] at hw
    subst hw
    refine lv_if_eq (tgt := 16) hx hb dX1_store_4 (by decide) (fun c_4 => ?_) (fun c_4 => ?_)
    · skip
      replace c_4 : 0 = 0 := (nI_eq (a := 0) (b := 0) (by omega) (by omega)).mp c_4
      refine lv_iconst (v := nI 0) hx hb dX1_store_16 (by decide) ?_
      exact W.iret (v := nI 0) hx hb hr (fun t ht hW => ⟨⟨nI 0, (L, w, d, st, tg, hi, mi, go), rfl, ⟨by unfold ap_st; rw [if_pos hyes9]; rfl, rfl⟩, f, hf, by rw [ht]; exact hP, va_K.moved hW.alike hK, hD⟩, hS.F ht⟩) hS.2.2 dX1_store_17
    · skip
      replace c_4 : ¬ (0 = 0) := fun h9 => c_4 ((nI_eq (a := 0) (b := 0) (by omega) (by omega)).mpr h9)
      exact absurd c_4 (by omega)
  · have hno9 := hyes9
    rw [if_neg hno9] at hw
    subst hw
    have hx64 : vp_in x 64 := vp_in_64.mpr hno9
    refine lv_if_eq (tgt := 16) hx hb dX1_store_4 (by decide) (fun c_4 => ?_) (fun c_4 => ?_)
    · skip
      replace c_4 : 1 = 0 := (nI_eq (a := 1) (b := 0) (by omega) (by omega)).mp c_4
      exact absurd c_4 (by omega)
    · skip
      replace c_4 : ¬ (1 = 0) := fun h9 => c_4 ((nI_eq (a := 1) (b := 0) (by omega) (by omega)).mpr h9)
      refine lv_aload_n hx hb dX1_store_7 rfl (lv_at hl 0 rfl) ?_
      refine va_get (D := (dC, dI)) (ci := 1) (v := .ref (q 11)) (C := RX1) (T := TX1) (N := 12) hx hb hts hwX1 hown hK hP 0 rfl rfl 7 (by decide) (hts (.fieldLink RX1 33 "ArcCache" "storeWords" "[I") (by decide +kernel)) (fun _ h9 => h9) rfl dX1_store_8 ?_
      refine lv_iload_n hx hb dX1_store_11 rfl (lv_at hl 1 rfl) ?_
      refine va_iald hx hb hK hP 11 6 rfl rfl hx64 dX1_store_12 ?_
      refine lv_goto (tgt := 17) hx hb dX1_store_13 (by decide) ?_
      exact W.iret (v := st x.toNatClampNeg) hx hb hr (fun t ht hW => ⟨⟨st x.toNatClampNeg, (L, w, d, st, tg, hi, mi, go), rfl, ⟨by unfold ap_st; rw [if_neg hno9], rfl⟩, f, hf, by rw [ht]; exact hP, va_K.moved hW.alike hK, hD⟩, hS.F ht⟩) hS.2.2 dX1_store_17
set_option maxHeartbeats 4000000 in
set_option maxRecDepth 100000 in
theorem c_X_isDirty (l : Launch) (dC : Nat → ClassId) (dI : Nat → Nat → Nat) (q : Nat → Nat) (ca : Nat → ClassId) (C : Nat) (L : Nat → List Int32) (f : Nat → Nat → Int32) (w d st : Nat → Int32) (tg : Nat) (hi mi go : Int32) (x : Int32) (sz : Nat) (hf : fx_ok f L) : Met l yX1_isDirty wsX1_isDirty ({ frames := 1, cells := 0, slots := 0, locals := 20 }) (va_Pc [.ref (q 0), .int x] (fun U => U.heap.size = sz ∧ va_P (dC, dI) vwCl (cx q ca C L f w d st tg hi mi go) U.heap ∧ va_K (dC, dI) vwCl (kx ca) U ∧ va_D (fun _ => True) (cx q ca C L f w d st tg hi mi go))) (va_Qi (fun (r : Int32) (u : ap_U) => r = ap_dy d x ∧ u = (L, w, d, st, tg, hi, mi, go)) (at_X dC dI (va_A (cx q ca C L f w d st tg hi mi go) sz) q ca C) (va_A (cx q ca C L f w d st tg hi mi go) sz)) 0 0 (va_A (cx q ca C L f w d st tg hi mi go) sz) := by
  refine Met.ofW (cc := cX1_isDirty) (maxL := 2) (ret := (some .boolean)) (by decide) rfl ?_
  intro p e s m args below meth c s₁ B hml hv
  obtain ⟨rfl, hsz, hP, hK, hD0⟩ := hv
  have hx := B.exec
  have hb := B.bytes
  have hr := B.returns
  have hts := atoms_spec (ws := wsX1_isDirty) B.pre
  have hown : s.vm.findClass RX1 = some m.cls := findClass_of_methodNamed B.named
  have hlocks := B.notSynchronized
  have hwX1 : ∀ w ∈ u_ws RX1 TX1 12, w ∈ wsX1_isDirty := by decide +kernel
  subst hsz
  have hD := hD0.self (sz := s.heap.size)
  generalize hAe : va_A (cx q ca C L f w d st tg hi mi go) s.heap.size = A at hD ⊢
  have hA : ∀ q : Nat, s.heap.size ≤ q → A q := fun q h => by rw [← hAe]; exact Or.inr h
  have hS0 : ∀ H, s.heap = H → va_S A s.heap H [] := fun H h => by subst h; exact va_S.rf
  have hl := lv_entry ([.ref (q 0), .int x]) (n := 2) (Nat.le_of_ble_eq_true rfl)
  rw [lg_entry_eq]
  generalize (lg_sl ([.ref (q 0), .int x]) ++ List.replicate (2 - (lg_sl ([.ref (q 0), .int x])).length) Slot.unset).toArray = ls at hl ⊢
  have hl : lv_has ls 2 [(0, .ref (q 0)), (1, .int x)] := hl
  generalize hHe : s.heap = H at hP ⊢
  have hS := hS0 H hHe
  refine lv_iload_n hx hb dX1_isDirty_0 rfl (lv_at hl 1 rfl) ?_
  have hPc := hP.sub (ws' := []) [] rfl
  have hDc := hD.sub (ws' := []) [] (by decide) rfl
  have hFc := va_free (wc := []) hD hS hA [] rfl
  refine va_calli (va_runS (As := [.int x]) (rest := []) ⟨hx, hb, hml, hown, hts⟩ (c_X_isAddress l dC dI x H.size) (va_cwS 1 hts gX1_isDirty_X1_isAddress rfl rfl rfl (by decide +kernel) ⟨Nat.le_of_ble_eq_true rfl, Nat.le_of_ble_eq_true rfl⟩) ⟨fun a U g mk q => by obtain ⟨q0, q1⟩ := q; exact ⟨q0, q1⟩, fun U hU hW => ⟨rfl, by show U.heap.size = _; rw [hU]⟩⟩ rfl rfl hl.1 rfl (lv_room (Nat.le_of_ble_eq_true rfl)) dX1_isDirty_1 ⟨Nat.le_of_ble_eq_true rfl, Nat.le_of_ble_eq_true rfl⟩) hS (fun q _ h => hFc q h) hFc (fun r u t H1 locs ht hvm hw hB hz1 hk1 hS => ?_)
  obtain ⟨hP, hD⟩ := va_join (wr := (cx q ca C L f w d st tg hi mi go)) (w1 := []) hP hD [] [0, 1, 2, 3, 4, 5, 6, 7, 8, 9, 10, 11] rfl rfl (by decide) (by decide) hk1 hFc (fun k q h => by simp at h) ⟨fun i j p q h => by simp at h, fun k q h => by simp at h⟩
  generalize H1 = H at hP hS ⊢
  replace hP : va_P (dC, dI) vwCl (cx q ca C L f w d st tg hi mi go) H := hP
  replace hD : va_D A (cx q ca C L f w d st tg hi mi go) := hD
  by_cases hyes9 : x < 0 ∨ nI 64 ≤ x
  · rw [if_pos hyes9] at hw
    subst hw
    refine lv_if_eq (tgt := 20) hx hb dX1_isDirty_4 (by decide) (fun c_4 => ?_) (fun c_4 => ?_)
    · skip
      replace c_4 : 0 = 0 := (nI_eq (a := 0) (b := 0) (by omega) (by omega)).mp c_4
      refine lv_iconst (v := nI 0) hx hb dX1_isDirty_20 (by decide) ?_
      exact W.zret (v := nI 0) (ty := .boolean) hx hb hr (by decide) (fun t ht hW => ⟨⟨nI 0, (L, w, d, st, tg, hi, mi, go), rfl, ⟨by unfold ap_dy; first | (rw [if_pos hyes9]; rfl) | (rw [if_neg hyes9, if_pos c_13]; rfl), rfl⟩, f, hf, by rw [ht]; exact hP, va_K.moved hW.alike hK, hD⟩, hS.F ht⟩) hS.2.2 dX1_isDirty_21
    · skip
      replace c_4 : ¬ (0 = 0) := fun h9 => c_4 ((nI_eq (a := 0) (b := 0) (by omega) (by omega)).mpr h9)
      exact absurd c_4 (by omega)
  · have hno9 := hyes9
    rw [if_neg hno9] at hw
    subst hw
    have hx64 : vp_in x 64 := vp_in_64.mpr hno9
    refine lv_if_eq (tgt := 20) hx hb dX1_isDirty_4 (by decide) (fun c_4 => ?_) (fun c_4 => ?_)
    · skip
      replace c_4 : 1 = 0 := (nI_eq (a := 1) (b := 0) (by omega) (by omega)).mp c_4
      exact absurd c_4 (by omega)
    · skip
      replace c_4 : ¬ (1 = 0) := fun h9 => c_4 ((nI_eq (a := 1) (b := 0) (by omega) (by omega)).mpr h9)
      refine lv_aload_n hx hb dX1_isDirty_7 rfl (lv_at hl 0 rfl) ?_
      refine va_get (D := (dC, dI)) (ci := 1) (v := .ref (q 10)) (C := RX1) (T := TX1) (N := 12) hx hb hts hwX1 hown hK hP 0 rfl rfl 6 (by decide) (hts (.fieldLink RX1 29 "ArcCache" "dirtyPages" "[Z") (by decide +kernel)) (fun _ h9 => h9) rfl dX1_isDirty_8 ?_
      refine lv_iload_n hx hb dX1_isDirty_11 rfl (lv_at hl 1 rfl) ?_
      refine va_zald hx hb hK hP 10 5 rfl rfl hx64 dX1_isDirty_12 ?_
      refine lv_if_eq (tgt := 20) hx hb dX1_isDirty_13 (by decide) (fun c_13 => ?_) (fun c_13 => ?_)
      · skip
        refine lv_iconst (v := nI 0) hx hb dX1_isDirty_20 (by decide) ?_
        exact W.zret (v := nI 0) (ty := .boolean) hx hb hr (by decide) (fun t ht hW => ⟨⟨nI 0, (L, w, d, st, tg, hi, mi, go), rfl, ⟨by unfold ap_dy; first | (rw [if_pos hyes9]; rfl) | (rw [if_neg hyes9, if_pos c_13]; rfl), rfl⟩, f, hf, by rw [ht]; exact hP, va_K.moved hW.alike hK, hD⟩, hS.F ht⟩) hS.2.2 dX1_isDirty_21
      · skip
        refine lv_iconst (v := nI 1) hx hb dX1_isDirty_16 (by decide) ?_
        refine lv_goto (tgt := 21) hx hb dX1_isDirty_17 (by decide) ?_
        exact W.zret (v := nI 1) (ty := .boolean) hx hb hr (by decide) (fun t ht hW => ⟨⟨nI 1, (L, w, d, st, tg, hi, mi, go), rfl, ⟨by unfold ap_dy; rw [if_neg hno9, if_neg c_13]; rfl, rfl⟩, f, hf, by rw [ht]; exact hP, va_K.moved hW.alike hK, hD⟩, hS.F ht⟩) hS.2.2 dX1_isDirty_21
set_option maxHeartbeats 4000000 in
set_option maxRecDepth 100000 in
theorem c_X_at (l : Launch) (dC : Nat → ClassId) (dI : Nat → Nat → Nat) (q : Nat → Nat) (ca : Nat → ClassId) (C : Nat) (L : Nat → List Int32) (f : Nat → Nat → Int32) (w d st : Nat → Int32) (tg : Nat) (hi mi go : Int32) (x y : Int32) (sz : Nat) (hf : fx_ok f L) (hI : ap_inv L) (hz : ap_tot L ≤ 48) : Met l yX1_at wsX1_at ({ frames := 1, cells := 0, slots := 0, locals := 21 }) (va_Pc [.ref (q 0), .int x, .int y] (fun U => U.heap.size = sz ∧ va_P (dC, dI) vwCl (cx q ca C L f w d st tg hi mi go) U.heap ∧ va_K (dC, dI) vwCl (kx ca) U ∧ va_D (fun _ => True) (cx q ca C L f w d st tg hi mi go))) (va_Qi (fun (r : Int32) (u : ap_U) => r = ap_at L x y ∧ u = (L, w, d, st, tg, hi, mi, go)) (at_X dC dI (va_A (cx q ca C L f w d st tg hi mi go) sz) q ca C) (va_A (cx q ca C L f w d st tg hi mi go) sz)) 0 0 (va_A (cx q ca C L f w d st tg hi mi go) sz) := by
  refine Met.ofW (cc := cX1_at) (maxL := 3) (ret := (some .int)) (by decide) rfl ?_
  intro p e s m args below meth c s₁ B hml hv
  obtain ⟨rfl, hsz, hP, hK, hD0⟩ := hv
  have hx := B.exec
  have hb := B.bytes
  have hr := B.returns
  have hts := atoms_spec (ws := wsX1_at) B.pre
  have hown : s.vm.findClass RX1 = some m.cls := findClass_of_methodNamed B.named
  have hlocks := B.notSynchronized
  have hwX1 : ∀ w ∈ u_ws RX1 TX1 12, w ∈ wsX1_at := by decide +kernel
  subst hsz
  have hD := hD0.self (sz := s.heap.size)
  generalize hAe : va_A (cx q ca C L f w d st tg hi mi go) s.heap.size = A at hD ⊢
  have hA : ∀ q : Nat, s.heap.size ≤ q → A q := fun q h => by rw [← hAe]; exact Or.inr h
  have hS0 : ∀ H, s.heap = H → va_S A s.heap H [] := fun H h => by subst h; exact va_S.rf
  have hl := lv_entry ([.ref (q 0), .int x, .int y]) (n := 3) (Nat.le_of_ble_eq_true rfl)
  rw [lg_entry_eq]
  generalize (lg_sl ([.ref (q 0), .int x, .int y]) ++ List.replicate (3 - (lg_sl ([.ref (q 0), .int x, .int y])).length) Slot.unset).toArray = ls at hl ⊢
  have hl : lv_has ls 3 [(0, .ref (q 0)), (1, .int x), (2, .int y)] := hl
  generalize hHe : s.heap = H at hP ⊢
  have hS := hS0 H hHe
  have z1 : (L 1).length ≤ 48 := by unfold ap_tot at hz; omega
  have z2 : (L 2).length ≤ 48 := by unfold ap_tot at hz; omega
  have z3 : (L 3).length ≤ 48 := by unfold ap_tot at hz; omega
  have z4 : (L 4).length ≤ 48 := by unfold ap_tot at hz; omega
  refine lv_iload_n hx hb dX1_at_0 rfl (lv_at hl 1 rfl) ?_
  have hPc := hP.sub (ws' := []) [] rfl
  have hDc := hD.sub (ws' := []) [] (by decide) rfl
  have hFc := va_free (wc := []) hD hS hA [] rfl
  refine va_calli (va_runS (As := [.int x]) (rest := []) ⟨hx, hb, hml, hown, hts⟩ (c_X_isList l dC dI x H.size) (va_cwS 1 hts gX1_at_X1_isList rfl rfl rfl (by decide +kernel) ⟨Nat.le_of_ble_eq_true rfl, Nat.le_of_ble_eq_true rfl⟩) ⟨fun a U g mk q => by obtain ⟨q0, q1⟩ := q; exact ⟨q0, q1⟩, fun U hU hW => ⟨rfl, by show U.heap.size = _; rw [hU]⟩⟩ rfl rfl hl.1 rfl (lv_room (Nat.le_of_ble_eq_true rfl)) dX1_at_1 ⟨Nat.le_of_ble_eq_true rfl, Nat.le_of_ble_eq_true rfl⟩) hS (fun q _ h => hFc q h) hFc (fun r u t H1 locs ht hvm hw hB hz1 hk1 hS => ?_)
  obtain ⟨hP, hD⟩ := va_join (wr := (cx q ca C L f w d st tg hi mi go)) (w1 := []) hP hD [] [0, 1, 2, 3, 4, 5, 6, 7, 8, 9, 10, 11] rfl rfl (by decide) (by decide) hk1 hFc (fun k q h => by simp at h) ⟨fun i j p q h => by simp at h, fun k q h => by simp at h⟩
  generalize H1 = H at hP hS ⊢
  replace hP : va_P (dC, dI) vwCl (cx q ca C L f w d st tg hi mi go) H := hP
  replace hD : va_D A (cx q ca C L f w d st tg hi mi go) := hD
  by_cases hyes9 : x < nI 1 ∨ nI 4 < x
  · rw [if_pos hyes9] at hw
    subst hw
    refine lv_if_eq (tgt := 19) hx hb dX1_at_4 (by decide) (fun c_4 => ?_) (fun c_4 => ?_)
    · skip
      replace c_4 : 0 = 0 := (nI_eq (a := 0) (b := 0) (by omega) (by omega)).mp c_4
      refine lv_iconst (v := -1) hx hb dX1_at_19 (by decide) ?_
      exact W.iret (v := -1) hx hb hr (fun t ht hW => ⟨⟨-1, (L, w, d, st, tg, hi, mi, go), rfl, ⟨by unfold ap_at; rw [if_pos hyes9], rfl⟩, f, hf, by rw [ht]; exact hP, va_K.moved hW.alike hK, hD⟩, hS.F ht⟩) hS.2.2 dX1_at_20
    · skip
      replace c_4 : ¬ (0 = 0) := fun h9 => c_4 ((nI_eq (a := 0) (b := 0) (by omega) (by omega)).mpr h9)
      exact absurd c_4 (by omega)
  · rw [if_neg hyes9] at hw
    subst hw
    rcases al_l14 hyes9 with rfl | rfl | rfl | rfl
    · skip
      refine lv_if_eq (tgt := 19) hx hb dX1_at_4 (by decide) (fun c_4 => ?_) (fun c_4 => ?_)
      · skip
        replace c_4 : 1 = 0 := (nI_eq (a := 1) (b := 0) (by omega) (by omega)).mp c_4
        exact absurd c_4 (by omega)
      · skip
        replace c_4 : ¬ (1 = 0) := fun h9 => c_4 ((nI_eq (a := 1) (b := 0) (by omega) (by omega)).mpr h9)
        refine lv_aload_n hx hb dX1_at_7 rfl (lv_at hl 0 rfl) ?_
        refine lv_iload_n hx hb dX1_at_8 rfl (lv_at hl 1 rfl) ?_
        have hPc := hP.sub (ws' := (cx q ca C L f w d st tg hi mi go)) [0, 1, 2, 3, 4, 5, 6, 7, 8, 9, 10, 11] rfl
        have hDc := hD.sub (ws' := (cx q ca C L f w d st tg hi mi go)) [0, 1, 2, 3, 4, 5, 6, 7, 8, 9, 10, 11] (by decide) rfl
        have hKc := hK.sub (tys' := (kx ca)) [0, 1, 2, 3, 4, 5, 6] rfl
        have hFc := va_free (wc := (cx q ca C L f w d st tg hi mi go)) hD hS hA [0, 1, 2, 3, 4, 5, 6, 7, 8, 9, 10, 11] rfl
        refine va_callr (va_runV (As := [.int (nI 1)]) (rest := []) ⟨hx, hb, hml, hown, hts⟩ (c_X_listNumbered l dC dI q ca C L f w d st tg hi mi go 1 H.size (by decide) (by decide) hf) (cwV 1 hts gX1_at_X1_listNumbered rfl rfl rfl (by decide +kernel) ⟨Nat.le_of_ble_eq_true rfl, Nat.le_of_ble_eq_true rfl⟩) ⟨fun a U g mk q => by obtain ⟨q0, q1, qP, qK, qD⟩ := q; exact ⟨q0, q1, qP, va_K.moved (u := U) (U := U.calling g mk a) (Vm.Alike.refl U.vm) qK, qD⟩, va_recv hKc hPc (ci := 1) (q0 := 0) rfl rfl, fun U hU hW => ⟨rfl, by rw [hU], by rw [hU]; exact hPc, va_K.moved hW.alike hKc, hDc.weaken (fun _ _ _ _ => trivial)⟩⟩ rfl rfl hl.1 rfl (lv_room (Nat.le_of_ble_eq_true rfl)) dX1_at_9 ⟨Nat.le_of_ble_eq_true rfl, Nat.le_of_ble_eq_true rfl⟩) hS (fun q _ h => hFc q h) hFc (fun u ra t H1 locs ht hvm hw hB hz1 hk1 hS => ?_)
        obtain ⟨era, f1, hf1, hP1, hK1, hD1⟩ := hB
        rw [ht] at hP1
        subst era
        obtain ⟨f_1, ef_1⟩ : ∃ z, z = f1 := ⟨_, rfl⟩
        rw [← ef_1] at hf1 hP1 hD1
        clear ef_1 f1
        have hfx_2 := hf1
        obtain ⟨hP, hD⟩ := va_join (wr := []) (w1 := (cx q ca C L f_1 w d st tg hi mi go)) hP hD [0, 1, 2, 3, 4, 5, 6, 7, 8, 9, 10, 11] [] rfl rfl (by decide) (by decide) hk1 hFc hP1 hD1
        generalize H1 = H at hP hS ⊢
        replace hP : va_P (dC, dI) vwCl (cx q ca C L f_1 w d st tg hi mi go) H := hP
        replace hD : va_D A (cx q ca C L f_1 w d st tg hi mi go) := hD
        refine lv_iload_n hx hb dX1_at_12 rfl (lv_at hl 2 rfl) ?_
        have hPc := hP.sub (ws' := (cal (q 1) (q 5) (ca 1) ((L 1).length) (f_1 1))) [1, 2] rfl
        have hDc := hD.sub (ws' := (cal (q 1) (q 5) (ca 1) ((L 1).length) (f_1 1))) [1, 2] (by decide) rfl
        have hKc := hK.sub (tys' := (kal (ca 1))) [0] rfl
        have hFc := va_free (wc := (cal (q 1) (q 5) (ca 1) ((L 1).length) (f_1 1))) hD hS hA [1, 2] rfl
        refine va_calli (va_runV (As := [.int y]) (rest := []) ⟨hx, hb, hml, hown, hts⟩ (c_A_fromNewest l dC dI (q 1) (q 5) (ca 1) (L 1) (f_1 1) y H.size (Nat.le_trans z1 (by decide)) (hfx_2 1 (by decide) (by decide))) (cwV 1 hts gX1_at_X0_fromNewest rfl rfl rfl (by decide +kernel) ⟨Nat.le_of_ble_eq_true rfl, Nat.le_of_ble_eq_true rfl⟩) ⟨fun a U g mk q => by obtain ⟨q0, q1, qP, qK, qD⟩ := q; exact ⟨q0, q1, qP, va_K.moved (u := U) (U := U.calling g mk a) (Vm.Alike.refl U.vm) qK, qD⟩, va_recv hKc hPc (ci := 0) (q0 := 0) rfl rfl, fun U hU hW => ⟨rfl, by rw [hU], by rw [hU]; exact hPc, va_K.moved hW.alike hKc, hDc.weaken (fun _ _ _ _ => trivial)⟩⟩ rfl rfl hl.1 rfl (lv_room (Nat.le_of_ble_eq_true rfl)) dX1_at_13 ⟨Nat.le_of_ble_eq_true rfl, Nat.le_of_ble_eq_true rfl⟩) hS (fun q _ h => hFc q h) hFc (fun r u t H1 locs ht hvm hw hB hz1 hk1 hS => ?_)
        obtain ⟨n1, f1⟩ := u
        obtain ⟨hP1, hK1, hD1⟩ := hB
        rw [ht] at hP1
        try dsimp only at hw hP1 hD1
        obtain ⟨hr9, hu⟩ := hw
        cases hu
        obtain ⟨hP, hD⟩ := va_join (wr := [(q 0, .inr (1, [.int (nI C), .ref (q 1), .ref (q 2), .ref (q 3), .ref (q 4), .ref (q 9), .ref (q 10), .ref (q 11), .int (nI tg), .int hi, .int mi, .int go])), (q 2, .inr (0, [.ref (q 6), .int (nI ((L 2).length))])), (q 6, .inl (ca 2, 64, .inl (f_1 2))), (q 3, .inr (0, [.ref (q 7), .int (nI ((L 3).length))])), (q 7, .inl (ca 3, 64, .inl (f_1 3))), (q 4, .inr (0, [.ref (q 8), .int (nI ((L 4).length))])), (q 8, .inl (ca 4, 64, .inl (f_1 4))), (q 9, .inl (ca 5, 64, .inl w)), (q 10, .inl (ca 6, 64, .inl d)), (q 11, .inl (ca 7, 64, .inl st))]) (w1 := (cal (q 1) (q 5) (ca 1) ((L 1).length) (f_1 1))) hP hD [1, 2] [0, 3, 4, 5, 6, 7, 8, 9, 10, 11] rfl rfl (by decide) (by decide) hk1 hFc hP1 hD1
        generalize H1 = H at hP hS ⊢
        replace hP := hP.sub (ws' := (cx q ca C L f_1 w d st tg hi mi go)) [0, 10, 11, 1, 2, 3, 4, 5, 6, 7, 8, 9] rfl
        replace hD := hD.sub (ws' := (cx q ca C L f_1 w d st tg hi mi go)) [0, 10, 11, 1, 2, 3, 4, 5, 6, 7, 8, 9] (by decide) rfl
        refine lv_goto (tgt := 20) hx hb dX1_at_16 (by decide) ?_
        exact W.iret (v := r) hx hb hr (fun t ht hW => ⟨⟨r, (L, w, d, st, tg, hi, mi, go), rfl, ⟨by unfold ap_at; rw [if_neg hyes9]; first | exact hr9 | rfl, rfl⟩, f_1, hfx_2, by rw [ht]; exact hP, va_K.moved hW.alike hK, hD⟩, hS.F ht⟩) hS.2.2 dX1_at_20
    · skip
      refine lv_if_eq (tgt := 19) hx hb dX1_at_4 (by decide) (fun c_4 => ?_) (fun c_4 => ?_)
      · skip
        replace c_4 : 1 = 0 := (nI_eq (a := 1) (b := 0) (by omega) (by omega)).mp c_4
        exact absurd c_4 (by omega)
      · skip
        replace c_4 : ¬ (1 = 0) := fun h9 => c_4 ((nI_eq (a := 1) (b := 0) (by omega) (by omega)).mpr h9)
        refine lv_aload_n hx hb dX1_at_7 rfl (lv_at hl 0 rfl) ?_
        refine lv_iload_n hx hb dX1_at_8 rfl (lv_at hl 1 rfl) ?_
        have hPc := hP.sub (ws' := (cx q ca C L f w d st tg hi mi go)) [0, 1, 2, 3, 4, 5, 6, 7, 8, 9, 10, 11] rfl
        have hDc := hD.sub (ws' := (cx q ca C L f w d st tg hi mi go)) [0, 1, 2, 3, 4, 5, 6, 7, 8, 9, 10, 11] (by decide) rfl
        have hKc := hK.sub (tys' := (kx ca)) [0, 1, 2, 3, 4, 5, 6] rfl
        have hFc := va_free (wc := (cx q ca C L f w d st tg hi mi go)) hD hS hA [0, 1, 2, 3, 4, 5, 6, 7, 8, 9, 10, 11] rfl
        refine va_callr (va_runV (As := [.int (nI 2)]) (rest := []) ⟨hx, hb, hml, hown, hts⟩ (c_X_listNumbered l dC dI q ca C L f w d st tg hi mi go 2 H.size (by decide) (by decide) hf) (cwV 1 hts gX1_at_X1_listNumbered rfl rfl rfl (by decide +kernel) ⟨Nat.le_of_ble_eq_true rfl, Nat.le_of_ble_eq_true rfl⟩) ⟨fun a U g mk q => by obtain ⟨q0, q1, qP, qK, qD⟩ := q; exact ⟨q0, q1, qP, va_K.moved (u := U) (U := U.calling g mk a) (Vm.Alike.refl U.vm) qK, qD⟩, va_recv hKc hPc (ci := 1) (q0 := 0) rfl rfl, fun U hU hW => ⟨rfl, by rw [hU], by rw [hU]; exact hPc, va_K.moved hW.alike hKc, hDc.weaken (fun _ _ _ _ => trivial)⟩⟩ rfl rfl hl.1 rfl (lv_room (Nat.le_of_ble_eq_true rfl)) dX1_at_9 ⟨Nat.le_of_ble_eq_true rfl, Nat.le_of_ble_eq_true rfl⟩) hS (fun q _ h => hFc q h) hFc (fun u ra t H1 locs ht hvm hw hB hz1 hk1 hS => ?_)
        obtain ⟨era, f1, hf1, hP1, hK1, hD1⟩ := hB
        rw [ht] at hP1
        subst era
        obtain ⟨f_3, ef_3⟩ : ∃ z, z = f1 := ⟨_, rfl⟩
        rw [← ef_3] at hf1 hP1 hD1
        clear ef_3 f1
        have hfx_4 := hf1
        obtain ⟨hP, hD⟩ := va_join (wr := []) (w1 := (cx q ca C L f_3 w d st tg hi mi go)) hP hD [0, 1, 2, 3, 4, 5, 6, 7, 8, 9, 10, 11] [] rfl rfl (by decide) (by decide) hk1 hFc hP1 hD1
        generalize H1 = H at hP hS ⊢
        replace hP : va_P (dC, dI) vwCl (cx q ca C L f_3 w d st tg hi mi go) H := hP
        replace hD : va_D A (cx q ca C L f_3 w d st tg hi mi go) := hD
        refine lv_iload_n hx hb dX1_at_12 rfl (lv_at hl 2 rfl) ?_
        have hPc := hP.sub (ws' := (cal (q 2) (q 6) (ca 2) ((L 2).length) (f_3 2))) [3, 4] rfl
        have hDc := hD.sub (ws' := (cal (q 2) (q 6) (ca 2) ((L 2).length) (f_3 2))) [3, 4] (by decide) rfl
        have hKc := hK.sub (tys' := (kal (ca 2))) [1] rfl
        have hFc := va_free (wc := (cal (q 2) (q 6) (ca 2) ((L 2).length) (f_3 2))) hD hS hA [3, 4] rfl
        refine va_calli (va_runV (As := [.int y]) (rest := []) ⟨hx, hb, hml, hown, hts⟩ (c_A_fromNewest l dC dI (q 2) (q 6) (ca 2) (L 2) (f_3 2) y H.size (Nat.le_trans z2 (by decide)) (hfx_4 2 (by decide) (by decide))) (cwV 1 hts gX1_at_X0_fromNewest rfl rfl rfl (by decide +kernel) ⟨Nat.le_of_ble_eq_true rfl, Nat.le_of_ble_eq_true rfl⟩) ⟨fun a U g mk q => by obtain ⟨q0, q1, qP, qK, qD⟩ := q; exact ⟨q0, q1, qP, va_K.moved (u := U) (U := U.calling g mk a) (Vm.Alike.refl U.vm) qK, qD⟩, va_recv hKc hPc (ci := 0) (q0 := 0) rfl rfl, fun U hU hW => ⟨rfl, by rw [hU], by rw [hU]; exact hPc, va_K.moved hW.alike hKc, hDc.weaken (fun _ _ _ _ => trivial)⟩⟩ rfl rfl hl.1 rfl (lv_room (Nat.le_of_ble_eq_true rfl)) dX1_at_13 ⟨Nat.le_of_ble_eq_true rfl, Nat.le_of_ble_eq_true rfl⟩) hS (fun q _ h => hFc q h) hFc (fun r u t H1 locs ht hvm hw hB hz1 hk1 hS => ?_)
        obtain ⟨n1, f1⟩ := u
        obtain ⟨hP1, hK1, hD1⟩ := hB
        rw [ht] at hP1
        try dsimp only at hw hP1 hD1
        obtain ⟨hr9, hu⟩ := hw
        cases hu
        obtain ⟨hP, hD⟩ := va_join (wr := [(q 0, .inr (1, [.int (nI C), .ref (q 1), .ref (q 2), .ref (q 3), .ref (q 4), .ref (q 9), .ref (q 10), .ref (q 11), .int (nI tg), .int hi, .int mi, .int go])), (q 1, .inr (0, [.ref (q 5), .int (nI ((L 1).length))])), (q 5, .inl (ca 1, 64, .inl (f_3 1))), (q 3, .inr (0, [.ref (q 7), .int (nI ((L 3).length))])), (q 7, .inl (ca 3, 64, .inl (f_3 3))), (q 4, .inr (0, [.ref (q 8), .int (nI ((L 4).length))])), (q 8, .inl (ca 4, 64, .inl (f_3 4))), (q 9, .inl (ca 5, 64, .inl w)), (q 10, .inl (ca 6, 64, .inl d)), (q 11, .inl (ca 7, 64, .inl st))]) (w1 := (cal (q 2) (q 6) (ca 2) ((L 2).length) (f_3 2))) hP hD [3, 4] [0, 1, 2, 5, 6, 7, 8, 9, 10, 11] rfl rfl (by decide) (by decide) hk1 hFc hP1 hD1
        generalize H1 = H at hP hS ⊢
        replace hP := hP.sub (ws' := (cx q ca C L f_3 w d st tg hi mi go)) [0, 1, 2, 10, 11, 3, 4, 5, 6, 7, 8, 9] rfl
        replace hD := hD.sub (ws' := (cx q ca C L f_3 w d st tg hi mi go)) [0, 1, 2, 10, 11, 3, 4, 5, 6, 7, 8, 9] (by decide) rfl
        refine lv_goto (tgt := 20) hx hb dX1_at_16 (by decide) ?_
        exact W.iret (v := r) hx hb hr (fun t ht hW => ⟨⟨r, (L, w, d, st, tg, hi, mi, go), rfl, ⟨by unfold ap_at; rw [if_neg hyes9]; first | exact hr9 | rfl, rfl⟩, f_3, hfx_4, by rw [ht]; exact hP, va_K.moved hW.alike hK, hD⟩, hS.F ht⟩) hS.2.2 dX1_at_20
    · skip
      refine lv_if_eq (tgt := 19) hx hb dX1_at_4 (by decide) (fun c_4 => ?_) (fun c_4 => ?_)
      · skip
        replace c_4 : 1 = 0 := (nI_eq (a := 1) (b := 0) (by omega) (by omega)).mp c_4
        exact absurd c_4 (by omega)
      · skip
        replace c_4 : ¬ (1 = 0) := fun h9 => c_4 ((nI_eq (a := 1) (b := 0) (by omega) (by omega)).mpr h9)
        refine lv_aload_n hx hb dX1_at_7 rfl (lv_at hl 0 rfl) ?_
        refine lv_iload_n hx hb dX1_at_8 rfl (lv_at hl 1 rfl) ?_
        have hPc := hP.sub (ws' := (cx q ca C L f w d st tg hi mi go)) [0, 1, 2, 3, 4, 5, 6, 7, 8, 9, 10, 11] rfl
        have hDc := hD.sub (ws' := (cx q ca C L f w d st tg hi mi go)) [0, 1, 2, 3, 4, 5, 6, 7, 8, 9, 10, 11] (by decide) rfl
        have hKc := hK.sub (tys' := (kx ca)) [0, 1, 2, 3, 4, 5, 6] rfl
        have hFc := va_free (wc := (cx q ca C L f w d st tg hi mi go)) hD hS hA [0, 1, 2, 3, 4, 5, 6, 7, 8, 9, 10, 11] rfl
        refine va_callr (va_runV (As := [.int (nI 3)]) (rest := []) ⟨hx, hb, hml, hown, hts⟩ (c_X_listNumbered l dC dI q ca C L f w d st tg hi mi go 3 H.size (by decide) (by decide) hf) (cwV 1 hts gX1_at_X1_listNumbered rfl rfl rfl (by decide +kernel) ⟨Nat.le_of_ble_eq_true rfl, Nat.le_of_ble_eq_true rfl⟩) ⟨fun a U g mk q => by obtain ⟨q0, q1, qP, qK, qD⟩ := q; exact ⟨q0, q1, qP, va_K.moved (u := U) (U := U.calling g mk a) (Vm.Alike.refl U.vm) qK, qD⟩, va_recv hKc hPc (ci := 1) (q0 := 0) rfl rfl, fun U hU hW => ⟨rfl, by rw [hU], by rw [hU]; exact hPc, va_K.moved hW.alike hKc, hDc.weaken (fun _ _ _ _ => trivial)⟩⟩ rfl rfl hl.1 rfl (lv_room (Nat.le_of_ble_eq_true rfl)) dX1_at_9 ⟨Nat.le_of_ble_eq_true rfl, Nat.le_of_ble_eq_true rfl⟩) hS (fun q _ h => hFc q h) hFc (fun u ra t H1 locs ht hvm hw hB hz1 hk1 hS => ?_)
        obtain ⟨era, f1, hf1, hP1, hK1, hD1⟩ := hB
        rw [ht] at hP1
        subst era
        obtain ⟨f_5, ef_5⟩ : ∃ z, z = f1 := ⟨_, rfl⟩
        rw [← ef_5] at hf1 hP1 hD1
        clear ef_5 f1
        have hfx_6 := hf1
        obtain ⟨hP, hD⟩ := va_join (wr := []) (w1 := (cx q ca C L f_5 w d st tg hi mi go)) hP hD [0, 1, 2, 3, 4, 5, 6, 7, 8, 9, 10, 11] [] rfl rfl (by decide) (by decide) hk1 hFc hP1 hD1
        generalize H1 = H at hP hS ⊢
        replace hP : va_P (dC, dI) vwCl (cx q ca C L f_5 w d st tg hi mi go) H := hP
        replace hD : va_D A (cx q ca C L f_5 w d st tg hi mi go) := hD
        refine lv_iload_n hx hb dX1_at_12 rfl (lv_at hl 2 rfl) ?_
        have hPc := hP.sub (ws' := (cal (q 3) (q 7) (ca 3) ((L 3).length) (f_5 3))) [5, 6] rfl
        have hDc := hD.sub (ws' := (cal (q 3) (q 7) (ca 3) ((L 3).length) (f_5 3))) [5, 6] (by decide) rfl
        have hKc := hK.sub (tys' := (kal (ca 3))) [2] rfl
        have hFc := va_free (wc := (cal (q 3) (q 7) (ca 3) ((L 3).length) (f_5 3))) hD hS hA [5, 6] rfl
        refine va_calli (va_runV (As := [.int y]) (rest := []) ⟨hx, hb, hml, hown, hts⟩ (c_A_fromNewest l dC dI (q 3) (q 7) (ca 3) (L 3) (f_5 3) y H.size (Nat.le_trans z3 (by decide)) (hfx_6 3 (by decide) (by decide))) (cwV 1 hts gX1_at_X0_fromNewest rfl rfl rfl (by decide +kernel) ⟨Nat.le_of_ble_eq_true rfl, Nat.le_of_ble_eq_true rfl⟩) ⟨fun a U g mk q => by obtain ⟨q0, q1, qP, qK, qD⟩ := q; exact ⟨q0, q1, qP, va_K.moved (u := U) (U := U.calling g mk a) (Vm.Alike.refl U.vm) qK, qD⟩, va_recv hKc hPc (ci := 0) (q0 := 0) rfl rfl, fun U hU hW => ⟨rfl, by rw [hU], by rw [hU]; exact hPc, va_K.moved hW.alike hKc, hDc.weaken (fun _ _ _ _ => trivial)⟩⟩ rfl rfl hl.1 rfl (lv_room (Nat.le_of_ble_eq_true rfl)) dX1_at_13 ⟨Nat.le_of_ble_eq_true rfl, Nat.le_of_ble_eq_true rfl⟩) hS (fun q _ h => hFc q h) hFc (fun r u t H1 locs ht hvm hw hB hz1 hk1 hS => ?_)
        obtain ⟨n1, f1⟩ := u
        obtain ⟨hP1, hK1, hD1⟩ := hB
        rw [ht] at hP1
        try dsimp only at hw hP1 hD1
        obtain ⟨hr9, hu⟩ := hw
        cases hu
        obtain ⟨hP, hD⟩ := va_join (wr := [(q 0, .inr (1, [.int (nI C), .ref (q 1), .ref (q 2), .ref (q 3), .ref (q 4), .ref (q 9), .ref (q 10), .ref (q 11), .int (nI tg), .int hi, .int mi, .int go])), (q 1, .inr (0, [.ref (q 5), .int (nI ((L 1).length))])), (q 5, .inl (ca 1, 64, .inl (f_5 1))), (q 2, .inr (0, [.ref (q 6), .int (nI ((L 2).length))])), (q 6, .inl (ca 2, 64, .inl (f_5 2))), (q 4, .inr (0, [.ref (q 8), .int (nI ((L 4).length))])), (q 8, .inl (ca 4, 64, .inl (f_5 4))), (q 9, .inl (ca 5, 64, .inl w)), (q 10, .inl (ca 6, 64, .inl d)), (q 11, .inl (ca 7, 64, .inl st))]) (w1 := (cal (q 3) (q 7) (ca 3) ((L 3).length) (f_5 3))) hP hD [5, 6] [0, 1, 2, 3, 4, 7, 8, 9, 10, 11] rfl rfl (by decide) (by decide) hk1 hFc hP1 hD1
        generalize H1 = H at hP hS ⊢
        replace hP := hP.sub (ws' := (cx q ca C L f_5 w d st tg hi mi go)) [0, 1, 2, 3, 4, 10, 11, 5, 6, 7, 8, 9] rfl
        replace hD := hD.sub (ws' := (cx q ca C L f_5 w d st tg hi mi go)) [0, 1, 2, 3, 4, 10, 11, 5, 6, 7, 8, 9] (by decide) rfl
        refine lv_goto (tgt := 20) hx hb dX1_at_16 (by decide) ?_
        exact W.iret (v := r) hx hb hr (fun t ht hW => ⟨⟨r, (L, w, d, st, tg, hi, mi, go), rfl, ⟨by unfold ap_at; rw [if_neg hyes9]; first | exact hr9 | rfl, rfl⟩, f_5, hfx_6, by rw [ht]; exact hP, va_K.moved hW.alike hK, hD⟩, hS.F ht⟩) hS.2.2 dX1_at_20
    · skip
      refine lv_if_eq (tgt := 19) hx hb dX1_at_4 (by decide) (fun c_4 => ?_) (fun c_4 => ?_)
      · skip
        replace c_4 : 1 = 0 := (nI_eq (a := 1) (b := 0) (by omega) (by omega)).mp c_4
        exact absurd c_4 (by omega)
      · skip
        replace c_4 : ¬ (1 = 0) := fun h9 => c_4 ((nI_eq (a := 1) (b := 0) (by omega) (by omega)).mpr h9)
        refine lv_aload_n hx hb dX1_at_7 rfl (lv_at hl 0 rfl) ?_
        refine lv_iload_n hx hb dX1_at_8 rfl (lv_at hl 1 rfl) ?_
        have hPc := hP.sub (ws' := (cx q ca C L f w d st tg hi mi go)) [0, 1, 2, 3, 4, 5, 6, 7, 8, 9, 10, 11] rfl
        have hDc := hD.sub (ws' := (cx q ca C L f w d st tg hi mi go)) [0, 1, 2, 3, 4, 5, 6, 7, 8, 9, 10, 11] (by decide) rfl
        have hKc := hK.sub (tys' := (kx ca)) [0, 1, 2, 3, 4, 5, 6] rfl
        have hFc := va_free (wc := (cx q ca C L f w d st tg hi mi go)) hD hS hA [0, 1, 2, 3, 4, 5, 6, 7, 8, 9, 10, 11] rfl
        refine va_callr (va_runV (As := [.int (nI 4)]) (rest := []) ⟨hx, hb, hml, hown, hts⟩ (c_X_listNumbered l dC dI q ca C L f w d st tg hi mi go 4 H.size (by decide) (by decide) hf) (cwV 1 hts gX1_at_X1_listNumbered rfl rfl rfl (by decide +kernel) ⟨Nat.le_of_ble_eq_true rfl, Nat.le_of_ble_eq_true rfl⟩) ⟨fun a U g mk q => by obtain ⟨q0, q1, qP, qK, qD⟩ := q; exact ⟨q0, q1, qP, va_K.moved (u := U) (U := U.calling g mk a) (Vm.Alike.refl U.vm) qK, qD⟩, va_recv hKc hPc (ci := 1) (q0 := 0) rfl rfl, fun U hU hW => ⟨rfl, by rw [hU], by rw [hU]; exact hPc, va_K.moved hW.alike hKc, hDc.weaken (fun _ _ _ _ => trivial)⟩⟩ rfl rfl hl.1 rfl (lv_room (Nat.le_of_ble_eq_true rfl)) dX1_at_9 ⟨Nat.le_of_ble_eq_true rfl, Nat.le_of_ble_eq_true rfl⟩) hS (fun q _ h => hFc q h) hFc (fun u ra t H1 locs ht hvm hw hB hz1 hk1 hS => ?_)
        obtain ⟨era, f1, hf1, hP1, hK1, hD1⟩ := hB
        rw [ht] at hP1
        subst era
        obtain ⟨f_7, ef_7⟩ : ∃ z, z = f1 := ⟨_, rfl⟩
        rw [← ef_7] at hf1 hP1 hD1
        clear ef_7 f1
        have hfx_8 := hf1
        obtain ⟨hP, hD⟩ := va_join (wr := []) (w1 := (cx q ca C L f_7 w d st tg hi mi go)) hP hD [0, 1, 2, 3, 4, 5, 6, 7, 8, 9, 10, 11] [] rfl rfl (by decide) (by decide) hk1 hFc hP1 hD1
        generalize H1 = H at hP hS ⊢
        replace hP : va_P (dC, dI) vwCl (cx q ca C L f_7 w d st tg hi mi go) H := hP
        replace hD : va_D A (cx q ca C L f_7 w d st tg hi mi go) := hD
        refine lv_iload_n hx hb dX1_at_12 rfl (lv_at hl 2 rfl) ?_
        have hPc := hP.sub (ws' := (cal (q 4) (q 8) (ca 4) ((L 4).length) (f_7 4))) [7, 8] rfl
        have hDc := hD.sub (ws' := (cal (q 4) (q 8) (ca 4) ((L 4).length) (f_7 4))) [7, 8] (by decide) rfl
        have hKc := hK.sub (tys' := (kal (ca 4))) [3] rfl
        have hFc := va_free (wc := (cal (q 4) (q 8) (ca 4) ((L 4).length) (f_7 4))) hD hS hA [7, 8] rfl
        refine va_calli (va_runV (As := [.int y]) (rest := []) ⟨hx, hb, hml, hown, hts⟩ (c_A_fromNewest l dC dI (q 4) (q 8) (ca 4) (L 4) (f_7 4) y H.size (Nat.le_trans z4 (by decide)) (hfx_8 4 (by decide) (by decide))) (cwV 1 hts gX1_at_X0_fromNewest rfl rfl rfl (by decide +kernel) ⟨Nat.le_of_ble_eq_true rfl, Nat.le_of_ble_eq_true rfl⟩) ⟨fun a U g mk q => by obtain ⟨q0, q1, qP, qK, qD⟩ := q; exact ⟨q0, q1, qP, va_K.moved (u := U) (U := U.calling g mk a) (Vm.Alike.refl U.vm) qK, qD⟩, va_recv hKc hPc (ci := 0) (q0 := 0) rfl rfl, fun U hU hW => ⟨rfl, by rw [hU], by rw [hU]; exact hPc, va_K.moved hW.alike hKc, hDc.weaken (fun _ _ _ _ => trivial)⟩⟩ rfl rfl hl.1 rfl (lv_room (Nat.le_of_ble_eq_true rfl)) dX1_at_13 ⟨Nat.le_of_ble_eq_true rfl, Nat.le_of_ble_eq_true rfl⟩) hS (fun q _ h => hFc q h) hFc (fun r u t H1 locs ht hvm hw hB hz1 hk1 hS => ?_)
        obtain ⟨n1, f1⟩ := u
        obtain ⟨hP1, hK1, hD1⟩ := hB
        rw [ht] at hP1
        try dsimp only at hw hP1 hD1
        obtain ⟨hr9, hu⟩ := hw
        cases hu
        obtain ⟨hP, hD⟩ := va_join (wr := [(q 0, .inr (1, [.int (nI C), .ref (q 1), .ref (q 2), .ref (q 3), .ref (q 4), .ref (q 9), .ref (q 10), .ref (q 11), .int (nI tg), .int hi, .int mi, .int go])), (q 1, .inr (0, [.ref (q 5), .int (nI ((L 1).length))])), (q 5, .inl (ca 1, 64, .inl (f_7 1))), (q 2, .inr (0, [.ref (q 6), .int (nI ((L 2).length))])), (q 6, .inl (ca 2, 64, .inl (f_7 2))), (q 3, .inr (0, [.ref (q 7), .int (nI ((L 3).length))])), (q 7, .inl (ca 3, 64, .inl (f_7 3))), (q 9, .inl (ca 5, 64, .inl w)), (q 10, .inl (ca 6, 64, .inl d)), (q 11, .inl (ca 7, 64, .inl st))]) (w1 := (cal (q 4) (q 8) (ca 4) ((L 4).length) (f_7 4))) hP hD [7, 8] [0, 1, 2, 3, 4, 5, 6, 9, 10, 11] rfl rfl (by decide) (by decide) hk1 hFc hP1 hD1
        generalize H1 = H at hP hS ⊢
        replace hP := hP.sub (ws' := (cx q ca C L f_7 w d st tg hi mi go)) [0, 1, 2, 3, 4, 5, 6, 10, 11, 7, 8, 9] rfl
        replace hD := hD.sub (ws' := (cx q ca C L f_7 w d st tg hi mi go)) [0, 1, 2, 3, 4, 5, 6, 10, 11, 7, 8, 9] (by decide) rfl
        refine lv_goto (tgt := 20) hx hb dX1_at_16 (by decide) ?_
        exact W.iret (v := r) hx hb hr (fun t ht hW => ⟨⟨r, (L, w, d, st, tg, hi, mi, go), rfl, ⟨by unfold ap_at; rw [if_neg hyes9]; first | exact hr9 | rfl, rfl⟩, f_7, hfx_8, by rw [ht]; exact hP, va_K.moved hW.alike hK, hD⟩, hS.F ht⟩) hS.2.2 dX1_at_20
set_option maxHeartbeats 4000000 in
set_option maxRecDepth 100000 in
theorem c_X_length (l : Launch) (dC : Nat → ClassId) (dI : Nat → Nat → Nat) (q : Nat → Nat) (ca : Nat → ClassId) (C : Nat) (L : Nat → List Int32) (f : Nat → Nat → Int32) (w d st : Nat → Int32) (tg : Nat) (hi mi go : Int32) (x : Int32) (sz : Nat) (hf : fx_ok f L) : Met l yX1_length wsX1_length ({ frames := 1, cells := 0, slots := 0, locals := 21 }) (va_Pc [.ref (q 0), .int x] (fun U => U.heap.size = sz ∧ va_P (dC, dI) vwCl (cx q ca C L f w d st tg hi mi go) U.heap ∧ va_K (dC, dI) vwCl (kx ca) U ∧ va_D (fun _ => True) (cx q ca C L f w d st tg hi mi go))) (va_Qi (fun (r : Int32) (u : ap_U) => r = ap_len L x ∧ u = (L, w, d, st, tg, hi, mi, go)) (at_X dC dI (va_A (cx q ca C L f w d st tg hi mi go) sz) q ca C) (va_A (cx q ca C L f w d st tg hi mi go) sz)) 0 0 (va_A (cx q ca C L f w d st tg hi mi go) sz) := by
  refine Met.ofW (cc := cX1_length) (maxL := 2) (ret := (some .int)) (by decide) rfl ?_
  intro p e s m args below meth c s₁ B hml hv
  obtain ⟨rfl, hsz, hP, hK, hD0⟩ := hv
  have hx := B.exec
  have hb := B.bytes
  have hr := B.returns
  have hts := atoms_spec (ws := wsX1_length) B.pre
  have hown : s.vm.findClass RX1 = some m.cls := findClass_of_methodNamed B.named
  have hlocks := B.notSynchronized
  have hwX1 : ∀ w ∈ u_ws RX1 TX1 12, w ∈ wsX1_length := by decide +kernel
  subst hsz
  have hD := hD0.self (sz := s.heap.size)
  generalize hAe : va_A (cx q ca C L f w d st tg hi mi go) s.heap.size = A at hD ⊢
  have hA : ∀ q : Nat, s.heap.size ≤ q → A q := fun q h => by rw [← hAe]; exact Or.inr h
  have hS0 : ∀ H, s.heap = H → va_S A s.heap H [] := fun H h => by subst h; exact va_S.rf
  have hl := lv_entry ([.ref (q 0), .int x]) (n := 2) (Nat.le_of_ble_eq_true rfl)
  rw [lg_entry_eq]
  generalize (lg_sl ([.ref (q 0), .int x]) ++ List.replicate (2 - (lg_sl ([.ref (q 0), .int x])).length) Slot.unset).toArray = ls at hl ⊢
  have hl : lv_has ls 2 [(0, .ref (q 0)), (1, .int x)] := hl
  generalize hHe : s.heap = H at hP ⊢
  have hS := hS0 H hHe
  refine lv_iload_n hx hb dX1_length_0 rfl (lv_at hl 1 rfl) ?_
  have hPc := hP.sub (ws' := []) [] rfl
  have hDc := hD.sub (ws' := []) [] (by decide) rfl
  have hFc := va_free (wc := []) hD hS hA [] rfl
  refine va_calli (va_runS (As := [.int x]) (rest := []) ⟨hx, hb, hml, hown, hts⟩ (c_X_isList l dC dI x H.size) (va_cwS 1 hts gX1_length_X1_isList rfl rfl rfl (by decide +kernel) ⟨Nat.le_of_ble_eq_true rfl, Nat.le_of_ble_eq_true rfl⟩) ⟨fun a U g mk q => by obtain ⟨q0, q1⟩ := q; exact ⟨q0, q1⟩, fun U hU hW => ⟨rfl, by show U.heap.size = _; rw [hU]⟩⟩ rfl rfl hl.1 rfl (lv_room (Nat.le_of_ble_eq_true rfl)) dX1_length_1 ⟨Nat.le_of_ble_eq_true rfl, Nat.le_of_ble_eq_true rfl⟩) hS (fun q _ h => hFc q h) hFc (fun r u t H1 locs ht hvm hw hB hz1 hk1 hS => ?_)
  obtain ⟨hP, hD⟩ := va_join (wr := (cx q ca C L f w d st tg hi mi go)) (w1 := []) hP hD [] [0, 1, 2, 3, 4, 5, 6, 7, 8, 9, 10, 11] rfl rfl (by decide) (by decide) hk1 hFc (fun k q h => by simp at h) ⟨fun i j p q h => by simp at h, fun k q h => by simp at h⟩
  generalize H1 = H at hP hS ⊢
  replace hP : va_P (dC, dI) vwCl (cx q ca C L f w d st tg hi mi go) H := hP
  replace hD : va_D A (cx q ca C L f w d st tg hi mi go) := hD
  by_cases hyes9 : x < nI 1 ∨ nI 4 < x
  · rw [if_pos hyes9] at hw
    subst hw
    refine lv_if_eq (tgt := 18) hx hb dX1_length_4 (by decide) (fun c_4 => ?_) (fun c_4 => ?_)
    · skip
      replace c_4 : 0 = 0 := (nI_eq (a := 0) (b := 0) (by omega) (by omega)).mp c_4
      refine lv_iconst (v := -1) hx hb dX1_length_18 (by decide) ?_
      exact W.iret (v := -1) hx hb hr (fun t ht hW => ⟨⟨-1, (L, w, d, st, tg, hi, mi, go), rfl, ⟨by unfold ap_len; rw [if_pos hyes9], rfl⟩, f, hf, by rw [ht]; exact hP, va_K.moved hW.alike hK, hD⟩, hS.F ht⟩) hS.2.2 dX1_length_19
    · skip
      replace c_4 : ¬ (0 = 0) := fun h9 => c_4 ((nI_eq (a := 0) (b := 0) (by omega) (by omega)).mpr h9)
      exact absurd c_4 (by omega)
  · rw [if_neg hyes9] at hw
    subst hw
    rcases al_l14 hyes9 with rfl | rfl | rfl | rfl
    · skip
      refine lv_if_eq (tgt := 18) hx hb dX1_length_4 (by decide) (fun c_4 => ?_) (fun c_4 => ?_)
      · skip
        replace c_4 : 1 = 0 := (nI_eq (a := 1) (b := 0) (by omega) (by omega)).mp c_4
        exact absurd c_4 (by omega)
      · skip
        replace c_4 : ¬ (1 = 0) := fun h9 => c_4 ((nI_eq (a := 1) (b := 0) (by omega) (by omega)).mpr h9)
        refine lv_aload_n hx hb dX1_length_7 rfl (lv_at hl 0 rfl) ?_
        refine lv_iload_n hx hb dX1_length_8 rfl (lv_at hl 1 rfl) ?_
        have hPc := hP.sub (ws' := (cx q ca C L f w d st tg hi mi go)) [0, 1, 2, 3, 4, 5, 6, 7, 8, 9, 10, 11] rfl
        have hDc := hD.sub (ws' := (cx q ca C L f w d st tg hi mi go)) [0, 1, 2, 3, 4, 5, 6, 7, 8, 9, 10, 11] (by decide) rfl
        have hKc := hK.sub (tys' := (kx ca)) [0, 1, 2, 3, 4, 5, 6] rfl
        have hFc := va_free (wc := (cx q ca C L f w d st tg hi mi go)) hD hS hA [0, 1, 2, 3, 4, 5, 6, 7, 8, 9, 10, 11] rfl
        refine va_callr (va_runV (As := [.int (nI 1)]) (rest := []) ⟨hx, hb, hml, hown, hts⟩ (c_X_listNumbered l dC dI q ca C L f w d st tg hi mi go 1 H.size (by decide) (by decide) hf) (cwV 1 hts gX1_length_X1_listNumbered rfl rfl rfl (by decide +kernel) ⟨Nat.le_of_ble_eq_true rfl, Nat.le_of_ble_eq_true rfl⟩) ⟨fun a U g mk q => by obtain ⟨q0, q1, qP, qK, qD⟩ := q; exact ⟨q0, q1, qP, va_K.moved (u := U) (U := U.calling g mk a) (Vm.Alike.refl U.vm) qK, qD⟩, va_recv hKc hPc (ci := 1) (q0 := 0) rfl rfl, fun U hU hW => ⟨rfl, by rw [hU], by rw [hU]; exact hPc, va_K.moved hW.alike hKc, hDc.weaken (fun _ _ _ _ => trivial)⟩⟩ rfl rfl hl.1 rfl (lv_room (Nat.le_of_ble_eq_true rfl)) dX1_length_9 ⟨Nat.le_of_ble_eq_true rfl, Nat.le_of_ble_eq_true rfl⟩) hS (fun q _ h => hFc q h) hFc (fun u ra t H1 locs ht hvm hw hB hz1 hk1 hS => ?_)
        obtain ⟨era, f1, hf1, hP1, hK1, hD1⟩ := hB
        rw [ht] at hP1
        subst era
        obtain ⟨f_1, ef_1⟩ : ∃ z, z = f1 := ⟨_, rfl⟩
        rw [← ef_1] at hf1 hP1 hD1
        clear ef_1 f1
        have hfx_2 := hf1
        obtain ⟨hP, hD⟩ := va_join (wr := []) (w1 := (cx q ca C L f_1 w d st tg hi mi go)) hP hD [0, 1, 2, 3, 4, 5, 6, 7, 8, 9, 10, 11] [] rfl rfl (by decide) (by decide) hk1 hFc hP1 hD1
        generalize H1 = H at hP hS ⊢
        replace hP : va_P (dC, dI) vwCl (cx q ca C L f_1 w d st tg hi mi go) H := hP
        replace hD : va_D A (cx q ca C L f_1 w d st tg hi mi go) := hD
        have hPc := hP.sub (ws' := (cal (q 1) (q 5) (ca 1) ((L 1).length) (f_1 1))) [1, 2] rfl
        have hDc := hD.sub (ws' := (cal (q 1) (q 5) (ca 1) ((L 1).length) (f_1 1))) [1, 2] (by decide) rfl
        have hKc := hK.sub (tys' := (kal (ca 1))) [0] rfl
        have hFc := va_free (wc := (cal (q 1) (q 5) (ca 1) ((L 1).length) (f_1 1))) hD hS hA [1, 2] rfl
        refine va_calli (va_runV (As := []) (rest := []) ⟨hx, hb, hml, hown, hts⟩ (c_A_size l dC dI (q 1) (q 5) (ca 1) (L 1).length (f_1 1) H.size) (cwV 0 hts gX1_length_X0_size rfl rfl rfl (by decide +kernel) ⟨Nat.le_of_ble_eq_true rfl, Nat.le_of_ble_eq_true rfl⟩) ⟨fun a U g mk q => by obtain ⟨q0, q1, qP, qK, qD⟩ := q; exact ⟨q0, q1, qP, va_K.moved (u := U) (U := U.calling g mk a) (Vm.Alike.refl U.vm) qK, qD⟩, va_recv hKc hPc (ci := 0) (q0 := 0) rfl rfl, fun U hU hW => ⟨rfl, by rw [hU], by rw [hU]; exact hPc, va_K.moved hW.alike hKc, hDc.weaken (fun _ _ _ _ => trivial)⟩⟩ rfl rfl hl.1 rfl (lv_room (Nat.le_of_ble_eq_true rfl)) dX1_length_12 ⟨Nat.le_of_ble_eq_true rfl, Nat.le_of_ble_eq_true rfl⟩) hS (fun q _ h => hFc q h) hFc (fun r u t H1 locs ht hvm hw hB hz1 hk1 hS => ?_)
        obtain ⟨n1, f1⟩ := u
        obtain ⟨hP1, hK1, hD1⟩ := hB
        rw [ht] at hP1
        try dsimp only at hw hP1 hD1
        obtain ⟨hr9, hu⟩ := hw
        cases hu
        obtain ⟨hP, hD⟩ := va_join (wr := [(q 0, .inr (1, [.int (nI C), .ref (q 1), .ref (q 2), .ref (q 3), .ref (q 4), .ref (q 9), .ref (q 10), .ref (q 11), .int (nI tg), .int hi, .int mi, .int go])), (q 2, .inr (0, [.ref (q 6), .int (nI ((L 2).length))])), (q 6, .inl (ca 2, 64, .inl (f_1 2))), (q 3, .inr (0, [.ref (q 7), .int (nI ((L 3).length))])), (q 7, .inl (ca 3, 64, .inl (f_1 3))), (q 4, .inr (0, [.ref (q 8), .int (nI ((L 4).length))])), (q 8, .inl (ca 4, 64, .inl (f_1 4))), (q 9, .inl (ca 5, 64, .inl w)), (q 10, .inl (ca 6, 64, .inl d)), (q 11, .inl (ca 7, 64, .inl st))]) (w1 := (cal (q 1) (q 5) (ca 1) ((L 1).length) (f_1 1))) hP hD [1, 2] [0, 3, 4, 5, 6, 7, 8, 9, 10, 11] rfl rfl (by decide) (by decide) hk1 hFc hP1 hD1
        generalize H1 = H at hP hS ⊢
        replace hP := hP.sub (ws' := (cx q ca C L f_1 w d st tg hi mi go)) [0, 10, 11, 1, 2, 3, 4, 5, 6, 7, 8, 9] rfl
        replace hD := hD.sub (ws' := (cx q ca C L f_1 w d st tg hi mi go)) [0, 10, 11, 1, 2, 3, 4, 5, 6, 7, 8, 9] (by decide) rfl
        subst hr9
        refine lv_goto (tgt := 19) hx hb dX1_length_15 (by decide) ?_
        exact W.iret (v := nI ((L 1).length)) hx hb hr (fun t ht hW => ⟨⟨nI ((L 1).length), (L, w, d, st, tg, hi, mi, go), rfl, ⟨by unfold ap_len; rw [if_neg hyes9]; first | exact hr9 | rfl, rfl⟩, f_1, hfx_2, by rw [ht]; exact hP, va_K.moved hW.alike hK, hD⟩, hS.F ht⟩) hS.2.2 dX1_length_19
    · skip
      refine lv_if_eq (tgt := 18) hx hb dX1_length_4 (by decide) (fun c_4 => ?_) (fun c_4 => ?_)
      · skip
        replace c_4 : 1 = 0 := (nI_eq (a := 1) (b := 0) (by omega) (by omega)).mp c_4
        exact absurd c_4 (by omega)
      · skip
        replace c_4 : ¬ (1 = 0) := fun h9 => c_4 ((nI_eq (a := 1) (b := 0) (by omega) (by omega)).mpr h9)
        refine lv_aload_n hx hb dX1_length_7 rfl (lv_at hl 0 rfl) ?_
        refine lv_iload_n hx hb dX1_length_8 rfl (lv_at hl 1 rfl) ?_
        have hPc := hP.sub (ws' := (cx q ca C L f w d st tg hi mi go)) [0, 1, 2, 3, 4, 5, 6, 7, 8, 9, 10, 11] rfl
        have hDc := hD.sub (ws' := (cx q ca C L f w d st tg hi mi go)) [0, 1, 2, 3, 4, 5, 6, 7, 8, 9, 10, 11] (by decide) rfl
        have hKc := hK.sub (tys' := (kx ca)) [0, 1, 2, 3, 4, 5, 6] rfl
        have hFc := va_free (wc := (cx q ca C L f w d st tg hi mi go)) hD hS hA [0, 1, 2, 3, 4, 5, 6, 7, 8, 9, 10, 11] rfl
        refine va_callr (va_runV (As := [.int (nI 2)]) (rest := []) ⟨hx, hb, hml, hown, hts⟩ (c_X_listNumbered l dC dI q ca C L f w d st tg hi mi go 2 H.size (by decide) (by decide) hf) (cwV 1 hts gX1_length_X1_listNumbered rfl rfl rfl (by decide +kernel) ⟨Nat.le_of_ble_eq_true rfl, Nat.le_of_ble_eq_true rfl⟩) ⟨fun a U g mk q => by obtain ⟨q0, q1, qP, qK, qD⟩ := q; exact ⟨q0, q1, qP, va_K.moved (u := U) (U := U.calling g mk a) (Vm.Alike.refl U.vm) qK, qD⟩, va_recv hKc hPc (ci := 1) (q0 := 0) rfl rfl, fun U hU hW => ⟨rfl, by rw [hU], by rw [hU]; exact hPc, va_K.moved hW.alike hKc, hDc.weaken (fun _ _ _ _ => trivial)⟩⟩ rfl rfl hl.1 rfl (lv_room (Nat.le_of_ble_eq_true rfl)) dX1_length_9 ⟨Nat.le_of_ble_eq_true rfl, Nat.le_of_ble_eq_true rfl⟩) hS (fun q _ h => hFc q h) hFc (fun u ra t H1 locs ht hvm hw hB hz1 hk1 hS => ?_)
        obtain ⟨era, f1, hf1, hP1, hK1, hD1⟩ := hB
        rw [ht] at hP1
        subst era
        obtain ⟨f_3, ef_3⟩ : ∃ z, z = f1 := ⟨_, rfl⟩
        rw [← ef_3] at hf1 hP1 hD1
        clear ef_3 f1
        have hfx_4 := hf1
        obtain ⟨hP, hD⟩ := va_join (wr := []) (w1 := (cx q ca C L f_3 w d st tg hi mi go)) hP hD [0, 1, 2, 3, 4, 5, 6, 7, 8, 9, 10, 11] [] rfl rfl (by decide) (by decide) hk1 hFc hP1 hD1
        generalize H1 = H at hP hS ⊢
        replace hP : va_P (dC, dI) vwCl (cx q ca C L f_3 w d st tg hi mi go) H := hP
        replace hD : va_D A (cx q ca C L f_3 w d st tg hi mi go) := hD
        have hPc := hP.sub (ws' := (cal (q 2) (q 6) (ca 2) ((L 2).length) (f_3 2))) [3, 4] rfl
        have hDc := hD.sub (ws' := (cal (q 2) (q 6) (ca 2) ((L 2).length) (f_3 2))) [3, 4] (by decide) rfl
        have hKc := hK.sub (tys' := (kal (ca 2))) [1] rfl
        have hFc := va_free (wc := (cal (q 2) (q 6) (ca 2) ((L 2).length) (f_3 2))) hD hS hA [3, 4] rfl
        refine va_calli (va_runV (As := []) (rest := []) ⟨hx, hb, hml, hown, hts⟩ (c_A_size l dC dI (q 2) (q 6) (ca 2) (L 2).length (f_3 2) H.size) (cwV 0 hts gX1_length_X0_size rfl rfl rfl (by decide +kernel) ⟨Nat.le_of_ble_eq_true rfl, Nat.le_of_ble_eq_true rfl⟩) ⟨fun a U g mk q => by obtain ⟨q0, q1, qP, qK, qD⟩ := q; exact ⟨q0, q1, qP, va_K.moved (u := U) (U := U.calling g mk a) (Vm.Alike.refl U.vm) qK, qD⟩, va_recv hKc hPc (ci := 0) (q0 := 0) rfl rfl, fun U hU hW => ⟨rfl, by rw [hU], by rw [hU]; exact hPc, va_K.moved hW.alike hKc, hDc.weaken (fun _ _ _ _ => trivial)⟩⟩ rfl rfl hl.1 rfl (lv_room (Nat.le_of_ble_eq_true rfl)) dX1_length_12 ⟨Nat.le_of_ble_eq_true rfl, Nat.le_of_ble_eq_true rfl⟩) hS (fun q _ h => hFc q h) hFc (fun r u t H1 locs ht hvm hw hB hz1 hk1 hS => ?_)
        obtain ⟨n1, f1⟩ := u
        obtain ⟨hP1, hK1, hD1⟩ := hB
        rw [ht] at hP1
        try dsimp only at hw hP1 hD1
        obtain ⟨hr9, hu⟩ := hw
        cases hu
        obtain ⟨hP, hD⟩ := va_join (wr := [(q 0, .inr (1, [.int (nI C), .ref (q 1), .ref (q 2), .ref (q 3), .ref (q 4), .ref (q 9), .ref (q 10), .ref (q 11), .int (nI tg), .int hi, .int mi, .int go])), (q 1, .inr (0, [.ref (q 5), .int (nI ((L 1).length))])), (q 5, .inl (ca 1, 64, .inl (f_3 1))), (q 3, .inr (0, [.ref (q 7), .int (nI ((L 3).length))])), (q 7, .inl (ca 3, 64, .inl (f_3 3))), (q 4, .inr (0, [.ref (q 8), .int (nI ((L 4).length))])), (q 8, .inl (ca 4, 64, .inl (f_3 4))), (q 9, .inl (ca 5, 64, .inl w)), (q 10, .inl (ca 6, 64, .inl d)), (q 11, .inl (ca 7, 64, .inl st))]) (w1 := (cal (q 2) (q 6) (ca 2) ((L 2).length) (f_3 2))) hP hD [3, 4] [0, 1, 2, 5, 6, 7, 8, 9, 10, 11] rfl rfl (by decide) (by decide) hk1 hFc hP1 hD1
        generalize H1 = H at hP hS ⊢
        replace hP := hP.sub (ws' := (cx q ca C L f_3 w d st tg hi mi go)) [0, 1, 2, 10, 11, 3, 4, 5, 6, 7, 8, 9] rfl
        replace hD := hD.sub (ws' := (cx q ca C L f_3 w d st tg hi mi go)) [0, 1, 2, 10, 11, 3, 4, 5, 6, 7, 8, 9] (by decide) rfl
        subst hr9
        refine lv_goto (tgt := 19) hx hb dX1_length_15 (by decide) ?_
        exact W.iret (v := nI ((L 2).length)) hx hb hr (fun t ht hW => ⟨⟨nI ((L 2).length), (L, w, d, st, tg, hi, mi, go), rfl, ⟨by unfold ap_len; rw [if_neg hyes9]; first | exact hr9 | rfl, rfl⟩, f_3, hfx_4, by rw [ht]; exact hP, va_K.moved hW.alike hK, hD⟩, hS.F ht⟩) hS.2.2 dX1_length_19
    · skip
      refine lv_if_eq (tgt := 18) hx hb dX1_length_4 (by decide) (fun c_4 => ?_) (fun c_4 => ?_)
      · skip
        replace c_4 : 1 = 0 := (nI_eq (a := 1) (b := 0) (by omega) (by omega)).mp c_4
        exact absurd c_4 (by omega)
      · skip
        replace c_4 : ¬ (1 = 0) := fun h9 => c_4 ((nI_eq (a := 1) (b := 0) (by omega) (by omega)).mpr h9)
        refine lv_aload_n hx hb dX1_length_7 rfl (lv_at hl 0 rfl) ?_
        refine lv_iload_n hx hb dX1_length_8 rfl (lv_at hl 1 rfl) ?_
        have hPc := hP.sub (ws' := (cx q ca C L f w d st tg hi mi go)) [0, 1, 2, 3, 4, 5, 6, 7, 8, 9, 10, 11] rfl
        have hDc := hD.sub (ws' := (cx q ca C L f w d st tg hi mi go)) [0, 1, 2, 3, 4, 5, 6, 7, 8, 9, 10, 11] (by decide) rfl
        have hKc := hK.sub (tys' := (kx ca)) [0, 1, 2, 3, 4, 5, 6] rfl
        have hFc := va_free (wc := (cx q ca C L f w d st tg hi mi go)) hD hS hA [0, 1, 2, 3, 4, 5, 6, 7, 8, 9, 10, 11] rfl
        refine va_callr (va_runV (As := [.int (nI 3)]) (rest := []) ⟨hx, hb, hml, hown, hts⟩ (c_X_listNumbered l dC dI q ca C L f w d st tg hi mi go 3 H.size (by decide) (by decide) hf) (cwV 1 hts gX1_length_X1_listNumbered rfl rfl rfl (by decide +kernel) ⟨Nat.le_of_ble_eq_true rfl, Nat.le_of_ble_eq_true rfl⟩) ⟨fun a U g mk q => by obtain ⟨q0, q1, qP, qK, qD⟩ := q; exact ⟨q0, q1, qP, va_K.moved (u := U) (U := U.calling g mk a) (Vm.Alike.refl U.vm) qK, qD⟩, va_recv hKc hPc (ci := 1) (q0 := 0) rfl rfl, fun U hU hW => ⟨rfl, by rw [hU], by rw [hU]; exact hPc, va_K.moved hW.alike hKc, hDc.weaken (fun _ _ _ _ => trivial)⟩⟩ rfl rfl hl.1 rfl (lv_room (Nat.le_of_ble_eq_true rfl)) dX1_length_9 ⟨Nat.le_of_ble_eq_true rfl, Nat.le_of_ble_eq_true rfl⟩) hS (fun q _ h => hFc q h) hFc (fun u ra t H1 locs ht hvm hw hB hz1 hk1 hS => ?_)
        obtain ⟨era, f1, hf1, hP1, hK1, hD1⟩ := hB
        rw [ht] at hP1
        subst era
        obtain ⟨f_5, ef_5⟩ : ∃ z, z = f1 := ⟨_, rfl⟩
        rw [← ef_5] at hf1 hP1 hD1
        clear ef_5 f1
        have hfx_6 := hf1
        obtain ⟨hP, hD⟩ := va_join (wr := []) (w1 := (cx q ca C L f_5 w d st tg hi mi go)) hP hD [0, 1, 2, 3, 4, 5, 6, 7, 8, 9, 10, 11] [] rfl rfl (by decide) (by decide) hk1 hFc hP1 hD1
        generalize H1 = H at hP hS ⊢
        replace hP : va_P (dC, dI) vwCl (cx q ca C L f_5 w d st tg hi mi go) H := hP
        replace hD : va_D A (cx q ca C L f_5 w d st tg hi mi go) := hD
        have hPc := hP.sub (ws' := (cal (q 3) (q 7) (ca 3) ((L 3).length) (f_5 3))) [5, 6] rfl
        have hDc := hD.sub (ws' := (cal (q 3) (q 7) (ca 3) ((L 3).length) (f_5 3))) [5, 6] (by decide) rfl
        have hKc := hK.sub (tys' := (kal (ca 3))) [2] rfl
        have hFc := va_free (wc := (cal (q 3) (q 7) (ca 3) ((L 3).length) (f_5 3))) hD hS hA [5, 6] rfl
        refine va_calli (va_runV (As := []) (rest := []) ⟨hx, hb, hml, hown, hts⟩ (c_A_size l dC dI (q 3) (q 7) (ca 3) (L 3).length (f_5 3) H.size) (cwV 0 hts gX1_length_X0_size rfl rfl rfl (by decide +kernel) ⟨Nat.le_of_ble_eq_true rfl, Nat.le_of_ble_eq_true rfl⟩) ⟨fun a U g mk q => by obtain ⟨q0, q1, qP, qK, qD⟩ := q; exact ⟨q0, q1, qP, va_K.moved (u := U) (U := U.calling g mk a) (Vm.Alike.refl U.vm) qK, qD⟩, va_recv hKc hPc (ci := 0) (q0 := 0) rfl rfl, fun U hU hW => ⟨rfl, by rw [hU], by rw [hU]; exact hPc, va_K.moved hW.alike hKc, hDc.weaken (fun _ _ _ _ => trivial)⟩⟩ rfl rfl hl.1 rfl (lv_room (Nat.le_of_ble_eq_true rfl)) dX1_length_12 ⟨Nat.le_of_ble_eq_true rfl, Nat.le_of_ble_eq_true rfl⟩) hS (fun q _ h => hFc q h) hFc (fun r u t H1 locs ht hvm hw hB hz1 hk1 hS => ?_)
        obtain ⟨n1, f1⟩ := u
        obtain ⟨hP1, hK1, hD1⟩ := hB
        rw [ht] at hP1
        try dsimp only at hw hP1 hD1
        obtain ⟨hr9, hu⟩ := hw
        cases hu
        obtain ⟨hP, hD⟩ := va_join (wr := [(q 0, .inr (1, [.int (nI C), .ref (q 1), .ref (q 2), .ref (q 3), .ref (q 4), .ref (q 9), .ref (q 10), .ref (q 11), .int (nI tg), .int hi, .int mi, .int go])), (q 1, .inr (0, [.ref (q 5), .int (nI ((L 1).length))])), (q 5, .inl (ca 1, 64, .inl (f_5 1))), (q 2, .inr (0, [.ref (q 6), .int (nI ((L 2).length))])), (q 6, .inl (ca 2, 64, .inl (f_5 2))), (q 4, .inr (0, [.ref (q 8), .int (nI ((L 4).length))])), (q 8, .inl (ca 4, 64, .inl (f_5 4))), (q 9, .inl (ca 5, 64, .inl w)), (q 10, .inl (ca 6, 64, .inl d)), (q 11, .inl (ca 7, 64, .inl st))]) (w1 := (cal (q 3) (q 7) (ca 3) ((L 3).length) (f_5 3))) hP hD [5, 6] [0, 1, 2, 3, 4, 7, 8, 9, 10, 11] rfl rfl (by decide) (by decide) hk1 hFc hP1 hD1
        generalize H1 = H at hP hS ⊢
        replace hP := hP.sub (ws' := (cx q ca C L f_5 w d st tg hi mi go)) [0, 1, 2, 3, 4, 10, 11, 5, 6, 7, 8, 9] rfl
        replace hD := hD.sub (ws' := (cx q ca C L f_5 w d st tg hi mi go)) [0, 1, 2, 3, 4, 10, 11, 5, 6, 7, 8, 9] (by decide) rfl
        subst hr9
        refine lv_goto (tgt := 19) hx hb dX1_length_15 (by decide) ?_
        exact W.iret (v := nI ((L 3).length)) hx hb hr (fun t ht hW => ⟨⟨nI ((L 3).length), (L, w, d, st, tg, hi, mi, go), rfl, ⟨by unfold ap_len; rw [if_neg hyes9]; first | exact hr9 | rfl, rfl⟩, f_5, hfx_6, by rw [ht]; exact hP, va_K.moved hW.alike hK, hD⟩, hS.F ht⟩) hS.2.2 dX1_length_19
    · skip
      refine lv_if_eq (tgt := 18) hx hb dX1_length_4 (by decide) (fun c_4 => ?_) (fun c_4 => ?_)
      · skip
        replace c_4 : 1 = 0 := (nI_eq (a := 1) (b := 0) (by omega) (by omega)).mp c_4
        exact absurd c_4 (by omega)
      · skip
        replace c_4 : ¬ (1 = 0) := fun h9 => c_4 ((nI_eq (a := 1) (b := 0) (by omega) (by omega)).mpr h9)
        refine lv_aload_n hx hb dX1_length_7 rfl (lv_at hl 0 rfl) ?_
        refine lv_iload_n hx hb dX1_length_8 rfl (lv_at hl 1 rfl) ?_
        have hPc := hP.sub (ws' := (cx q ca C L f w d st tg hi mi go)) [0, 1, 2, 3, 4, 5, 6, 7, 8, 9, 10, 11] rfl
        have hDc := hD.sub (ws' := (cx q ca C L f w d st tg hi mi go)) [0, 1, 2, 3, 4, 5, 6, 7, 8, 9, 10, 11] (by decide) rfl
        have hKc := hK.sub (tys' := (kx ca)) [0, 1, 2, 3, 4, 5, 6] rfl
        have hFc := va_free (wc := (cx q ca C L f w d st tg hi mi go)) hD hS hA [0, 1, 2, 3, 4, 5, 6, 7, 8, 9, 10, 11] rfl
        refine va_callr (va_runV (As := [.int (nI 4)]) (rest := []) ⟨hx, hb, hml, hown, hts⟩ (c_X_listNumbered l dC dI q ca C L f w d st tg hi mi go 4 H.size (by decide) (by decide) hf) (cwV 1 hts gX1_length_X1_listNumbered rfl rfl rfl (by decide +kernel) ⟨Nat.le_of_ble_eq_true rfl, Nat.le_of_ble_eq_true rfl⟩) ⟨fun a U g mk q => by obtain ⟨q0, q1, qP, qK, qD⟩ := q; exact ⟨q0, q1, qP, va_K.moved (u := U) (U := U.calling g mk a) (Vm.Alike.refl U.vm) qK, qD⟩, va_recv hKc hPc (ci := 1) (q0 := 0) rfl rfl, fun U hU hW => ⟨rfl, by rw [hU], by rw [hU]; exact hPc, va_K.moved hW.alike hKc, hDc.weaken (fun _ _ _ _ => trivial)⟩⟩ rfl rfl hl.1 rfl (lv_room (Nat.le_of_ble_eq_true rfl)) dX1_length_9 ⟨Nat.le_of_ble_eq_true rfl, Nat.le_of_ble_eq_true rfl⟩) hS (fun q _ h => hFc q h) hFc (fun u ra t H1 locs ht hvm hw hB hz1 hk1 hS => ?_)
        obtain ⟨era, f1, hf1, hP1, hK1, hD1⟩ := hB
        rw [ht] at hP1
        subst era
        obtain ⟨f_7, ef_7⟩ : ∃ z, z = f1 := ⟨_, rfl⟩
        rw [← ef_7] at hf1 hP1 hD1
        clear ef_7 f1
        have hfx_8 := hf1
        obtain ⟨hP, hD⟩ := va_join (wr := []) (w1 := (cx q ca C L f_7 w d st tg hi mi go)) hP hD [0, 1, 2, 3, 4, 5, 6, 7, 8, 9, 10, 11] [] rfl rfl (by decide) (by decide) hk1 hFc hP1 hD1
        generalize H1 = H at hP hS ⊢
        replace hP : va_P (dC, dI) vwCl (cx q ca C L f_7 w d st tg hi mi go) H := hP
        replace hD : va_D A (cx q ca C L f_7 w d st tg hi mi go) := hD
        have hPc := hP.sub (ws' := (cal (q 4) (q 8) (ca 4) ((L 4).length) (f_7 4))) [7, 8] rfl
        have hDc := hD.sub (ws' := (cal (q 4) (q 8) (ca 4) ((L 4).length) (f_7 4))) [7, 8] (by decide) rfl
        have hKc := hK.sub (tys' := (kal (ca 4))) [3] rfl
        have hFc := va_free (wc := (cal (q 4) (q 8) (ca 4) ((L 4).length) (f_7 4))) hD hS hA [7, 8] rfl
        refine va_calli (va_runV (As := []) (rest := []) ⟨hx, hb, hml, hown, hts⟩ (c_A_size l dC dI (q 4) (q 8) (ca 4) (L 4).length (f_7 4) H.size) (cwV 0 hts gX1_length_X0_size rfl rfl rfl (by decide +kernel) ⟨Nat.le_of_ble_eq_true rfl, Nat.le_of_ble_eq_true rfl⟩) ⟨fun a U g mk q => by obtain ⟨q0, q1, qP, qK, qD⟩ := q; exact ⟨q0, q1, qP, va_K.moved (u := U) (U := U.calling g mk a) (Vm.Alike.refl U.vm) qK, qD⟩, va_recv hKc hPc (ci := 0) (q0 := 0) rfl rfl, fun U hU hW => ⟨rfl, by rw [hU], by rw [hU]; exact hPc, va_K.moved hW.alike hKc, hDc.weaken (fun _ _ _ _ => trivial)⟩⟩ rfl rfl hl.1 rfl (lv_room (Nat.le_of_ble_eq_true rfl)) dX1_length_12 ⟨Nat.le_of_ble_eq_true rfl, Nat.le_of_ble_eq_true rfl⟩) hS (fun q _ h => hFc q h) hFc (fun r u t H1 locs ht hvm hw hB hz1 hk1 hS => ?_)
        obtain ⟨n1, f1⟩ := u
        obtain ⟨hP1, hK1, hD1⟩ := hB
        rw [ht] at hP1
        try dsimp only at hw hP1 hD1
        obtain ⟨hr9, hu⟩ := hw
        cases hu
        obtain ⟨hP, hD⟩ := va_join (wr := [(q 0, .inr (1, [.int (nI C), .ref (q 1), .ref (q 2), .ref (q 3), .ref (q 4), .ref (q 9), .ref (q 10), .ref (q 11), .int (nI tg), .int hi, .int mi, .int go])), (q 1, .inr (0, [.ref (q 5), .int (nI ((L 1).length))])), (q 5, .inl (ca 1, 64, .inl (f_7 1))), (q 2, .inr (0, [.ref (q 6), .int (nI ((L 2).length))])), (q 6, .inl (ca 2, 64, .inl (f_7 2))), (q 3, .inr (0, [.ref (q 7), .int (nI ((L 3).length))])), (q 7, .inl (ca 3, 64, .inl (f_7 3))), (q 9, .inl (ca 5, 64, .inl w)), (q 10, .inl (ca 6, 64, .inl d)), (q 11, .inl (ca 7, 64, .inl st))]) (w1 := (cal (q 4) (q 8) (ca 4) ((L 4).length) (f_7 4))) hP hD [7, 8] [0, 1, 2, 3, 4, 5, 6, 9, 10, 11] rfl rfl (by decide) (by decide) hk1 hFc hP1 hD1
        generalize H1 = H at hP hS ⊢
        replace hP := hP.sub (ws' := (cx q ca C L f_7 w d st tg hi mi go)) [0, 1, 2, 3, 4, 5, 6, 10, 11, 7, 8, 9] rfl
        replace hD := hD.sub (ws' := (cx q ca C L f_7 w d st tg hi mi go)) [0, 1, 2, 3, 4, 5, 6, 10, 11, 7, 8, 9] (by decide) rfl
        subst hr9
        refine lv_goto (tgt := 19) hx hb dX1_length_15 (by decide) ?_
        exact W.iret (v := nI ((L 4).length)) hx hb hr (fun t ht hW => ⟨⟨nI ((L 4).length), (L, w, d, st, tg, hi, mi, go), rfl, ⟨by unfold ap_len; rw [if_neg hyes9]; first | exact hr9 | rfl, rfl⟩, f_7, hfx_8, by rw [ht]; exact hP, va_K.moved hW.alike hK, hD⟩, hS.F ht⟩) hS.2.2 dX1_length_19
set_option maxHeartbeats 4000000 in
set_option maxRecDepth 100000 in
theorem c_X_read (l : Launch) (dC : Nat → ClassId) (dI : Nat → Nat → Nat) (q : Nat → Nat) (ca : Nat → ClassId) (C : Nat) (L : Nat → List Int32) (f : Nat → Nat → Int32) (w d st : Nat → Int32) (tg : Nat) (hi mi go : Int32) (x : Int32) (sz : Nat) (hf : fx_ok f L) (hok : ap_ok C tg L) : Met l yX1_read wsX1_read ({ frames := 6, cells := 0, slots := 0, locals := 173 }) (va_Pc [.ref (q 0), .int x] (fun U => U.heap.size = sz ∧ va_P (dC, dI) vwCl (cx q ca C L f w d st tg hi mi go) U.heap ∧ va_K (dC, dI) vwCl (kx ca) U ∧ va_D (fun _ => True) (cx q ca C L f w d st tg hi mi go) ∧ va_Nw (.methodLinkNest RX0 23 yX1_isAddress "ArcCache") U)) (va_Qi (fun (r : Int32) (u : ap_U) => (r, u) = ap_rd C x (L, w, d, st, tg, hi, mi, go)) (at_X dC dI (va_A (cx q ca C L f w d st tg hi mi go) sz) q ca C) (va_A (cx q ca C L f w d st tg hi mi go) sz)) 0 0 (va_A (cx q ca C L f w d st tg hi mi go) sz) := by
  refine Met.ofW (cc := cX1_read) (maxL := 2) (ret := (some .int)) (by decide) rfl ?_
  intro p e s m args below meth c s₁ B hml hv
  obtain ⟨rfl, hsz, hP, hK, hD0, hN⟩ := hv
  have hx := B.exec
  have hb := B.bytes
  have hr := B.returns
  have hts := atoms_spec (ws := wsX1_read) B.pre
  have hown : s.vm.findClass RX1 = some m.cls := findClass_of_methodNamed B.named
  have hlocks := B.notSynchronized
  have hwX1 : ∀ w ∈ u_ws RX1 TX1 12, w ∈ wsX1_read := by decide +kernel
  subst hsz
  have hD := hD0.self (sz := s.heap.size)
  generalize hAe : va_A (cx q ca C L f w d st tg hi mi go) s.heap.size = A at hD ⊢
  have hA : ∀ q : Nat, s.heap.size ≤ q → A q := fun q h => by rw [← hAe]; exact Or.inr h
  have hS0 : ∀ H, s.heap = H → va_S A s.heap H [] := fun H h => by subst h; exact va_S.rf
  have hl := lv_entry ([.ref (q 0), .int x]) (n := 2) (Nat.le_of_ble_eq_true rfl)
  rw [lg_entry_eq]
  generalize (lg_sl ([.ref (q 0), .int x]) ++ List.replicate (2 - (lg_sl ([.ref (q 0), .int x])).length) Slot.unset).toArray = ls at hl ⊢
  have hl : lv_has ls 2 [(0, .ref (q 0)), (1, .int x)] := hl
  generalize hHe : s.heap = H at hP ⊢
  have hS := hS0 H hHe
  refine lv_iload_n hx hb dX1_read_0 rfl (lv_at hl 1 rfl) ?_
  have hPc := hP.sub (ws' := []) [] rfl
  have hDc := hD.sub (ws' := []) [] (by decide) rfl
  have hFc := va_free (wc := []) hD hS hA [] rfl
  refine va_calli (va_runS (As := [.int x]) (rest := []) ⟨hx, hb, hml, hown, hts⟩ (c_X_isAddress l dC dI x H.size) (va_cwS 1 hts gX1_read_X1_isAddress rfl rfl rfl (by decide +kernel) ⟨Nat.le_of_ble_eq_true rfl, Nat.le_of_ble_eq_true rfl⟩) ⟨fun a U g mk q => by obtain ⟨q0, q1⟩ := q; exact ⟨q0, q1⟩, fun U hU hW => ⟨rfl, by show U.heap.size = _; rw [hU]⟩⟩ rfl rfl hl.1 rfl (lv_room (Nat.le_of_ble_eq_true rfl)) dX1_read_1 ⟨Nat.le_of_ble_eq_true rfl, Nat.le_of_ble_eq_true rfl⟩) hS (fun q _ h => hFc q h) hFc (fun r u t H1 locs ht hvm hw hB hz1 hk1 hS => ?_)
  obtain ⟨hP, hD⟩ := va_join (wr := (cx q ca C L f w d st tg hi mi go)) (w1 := []) hP hD [] [0, 1, 2, 3, 4, 5, 6, 7, 8, 9, 10, 11] rfl rfl (by decide) (by decide) hk1 hFc (fun k q h => by simp at h) ⟨fun i j p q h => by simp at h, fun k q h => by simp at h⟩
  generalize H1 = H at hP hS ⊢
  replace hP : va_P (dC, dI) vwCl (cx q ca C L f w d st tg hi mi go) H := hP
  replace hD : va_D A (cx q ca C L f w d st tg hi mi go) := hD
  by_cases hyes9 : x < 0 ∨ nI 64 ≤ x
  · rw [if_pos hyes9] at hw
    subst hw
    refine lv_if_ne (tgt := 9) hx hb dX1_read_4 (by decide) (fun c_4 => ?_) (fun c_4 => ?_)
    · skip
      replace c_4 : ¬ (0 = 0) := fun h9 => c_4 ((nI_eq (a := 0) (b := 0) (by omega) (by omega)).mpr h9)
      exact absurd c_4 (by omega)
    · skip
      replace c_4 : 0 = 0 := (nI_eq (a := 0) (b := 0) (by omega) (by omega)).mp c_4
      refine lv_iconst (v := nI 0) hx hb dX1_read_7 (by decide) ?_
      exact W.iret (v := nI 0) hx hb hr (fun t ht hW => ⟨⟨nI 0, (L, w, d, st, tg, hi, mi, go), rfl, by unfold ap_rd; rw [if_pos hyes9]; rfl, f, hf, by rw [ht]; exact hP, va_K.moved hW.alike hK, hD⟩, hS.F ht⟩) hS.2.2 dX1_read_8
  · have hno9 := hyes9
    rw [if_neg hno9] at hw
    subst hw
    have hx64 : vp_in x 64 := vp_in_64.mpr hno9
    refine lv_if_ne (tgt := 9) hx hb dX1_read_4 (by decide) (fun c_4 => ?_) (fun c_4 => ?_)
    · skip
      replace c_4 : ¬ (1 = 0) := fun h9 => c_4 ((nI_eq (a := 1) (b := 0) (by omega) (by omega)).mpr h9)
      refine lv_aload_n hx hb dX1_read_9 rfl (lv_at hl 0 rfl) ?_
      refine lv_iload_n hx hb dX1_read_10 rfl (lv_at hl 1 rfl) ?_
      have hPc := hP.sub (ws' := (cx q ca C L f w d st tg hi mi go)) [0, 1, 2, 3, 4, 5, 6, 7, 8, 9, 10, 11] rfl
      have hDc := hD.sub (ws' := (cx q ca C L f w d st tg hi mi go)) [0, 1, 2, 3, 4, 5, 6, 7, 8, 9, 10, 11] (by decide) rfl
      have hKc := hK.sub (tys' := (kx ca)) [0, 1, 2, 3, 4, 5, 6] rfl
      have hFc := va_free (wc := (cx q ca C L f w d st tg hi mi go)) hD hS hA [0, 1, 2, 3, 4, 5, 6, 7, 8, 9, 10, 11] rfl
      refine va_callv (va_runV (As := [.int x]) (rest := []) ⟨hx, hb, hml, hown, hts⟩ (c_X_request l dC dI q ca C L f w d st tg hi mi go x H.size hf hok hx64) (cwV 1 hts gX1_read_X1_request rfl rfl rfl (by decide +kernel) ⟨Nat.le_of_ble_eq_true rfl, Nat.le_of_ble_eq_true rfl⟩) ⟨fun a U g mk q => by obtain ⟨q0, q1, qP, qK, qD, qN⟩ := q; exact ⟨q0, q1, qP, va_K.moved (u := U) (U := U.calling g mk a) (Vm.Alike.refl U.vm) qK, qD, va_tabs rfl (rfl : U.vm = (U.calling g mk a).vm) qN⟩, va_recv hKc hPc (ci := 1) (q0 := 0) rfl rfl, fun U hU hW => ⟨rfl, by rw [hU], by rw [hU]; exact hPc, va_K.moved hW.alike hKc, hDc.weaken (fun _ _ _ _ => trivial), va_Nw.warmM hW hN⟩⟩ rfl rfl hl.1 rfl (lv_room (Nat.le_of_ble_eq_true rfl)) dX1_read_11 ⟨Nat.le_of_ble_eq_true rfl, Nat.le_of_ble_eq_true rfl⟩) hS (fun q _ h => hFc q h) hFc (fun u t H1 locs ht hvm hw hB hz1 hk1 hS => ?_)
      obtain ⟨L1, w1, d1, st1, tg1, hi1, mi1, go1⟩ := u
      obtain ⟨f1, hf1, hP1, hK1, hD1⟩ := hB
      rw [ht] at hP1
      have hw9 := hw
      obtain ⟨hP, hD⟩ := va_join (wr := []) (w1 := (cx q ca C L1 f1 w1 d1 st1 tg1 hi1 mi1 go1)) hP hD [0, 1, 2, 3, 4, 5, 6, 7, 8, 9, 10, 11] [] rfl rfl (by decide) (by decide) hk1 hFc hP1 hD1
      generalize H1 = H at hP hS ⊢
      replace hP : va_P (dC, dI) vwCl (cx q ca C L1 f1 w1 d1 st1 tg1 hi1 mi1 go1) H := hP
      replace hD : va_D A (cx q ca C L1 f1 w1 d1 st1 tg1 hi1 mi1 go1) := hD
      refine lv_aload_n hx hb dX1_read_14 rfl (lv_at hl 0 rfl) ?_
      refine va_get (D := (dC, dI)) (ci := 1) (v := .ref (q 9)) (C := RX1) (T := TX1) (N := 12) hx hb hts hwX1 hown hK hP 0 rfl rfl 5 (by decide) (hts (.fieldLink RX1 25 "ArcCache" "pageWords" "[I") (by decide +kernel)) (fun _ h9 => h9) rfl dX1_read_15 ?_
      refine lv_iload_n hx hb dX1_read_18 rfl (lv_at hl 1 rfl) ?_
      refine va_iald hx hb hK hP 9 4 rfl rfl hx64 dX1_read_19 ?_
      exact W.iret (v := w1 x.toNatClampNeg) hx hb hr (fun t ht hW => ⟨⟨w1 x.toNatClampNeg, (L1, w1, d1, st1, tg1, hi1, mi1, go1), rfl, by unfold ap_rd; rw [if_neg hno9, ← hw9], f1, hf1, by rw [ht]; exact hP, va_K.moved hW.alike hK, hD⟩, hS.F ht⟩) hS.2.2 dX1_read_20
    · skip
      replace c_4 : 1 = 0 := (nI_eq (a := 1) (b := 0) (by omega) (by omega)).mp c_4
      exact absurd c_4 (by omega)
set_option maxHeartbeats 4000000 in
set_option maxRecDepth 100000 in
theorem c_X_write (l : Launch) (dC : Nat → ClassId) (dI : Nat → Nat → Nat) (q : Nat → Nat) (ca : Nat → ClassId) (C : Nat) (L : Nat → List Int32) (f : Nat → Nat → Int32) (w d st : Nat → Int32) (tg : Nat) (hi mi go : Int32) (x y : Int32) (sz : Nat) (hf : fx_ok f L) (hok : ap_ok C tg L) : Met l yX1_write wsX1_write ({ frames := 6, cells := 0, slots := 0, locals := 173 }) (va_Pc [.ref (q 0), .int x, .int y] (fun U => U.heap.size = sz ∧ va_P (dC, dI) vwCl (cx q ca C L f w d st tg hi mi go) U.heap ∧ va_K (dC, dI) vwCl (kx ca) U ∧ va_D (fun _ => True) (cx q ca C L f w d st tg hi mi go) ∧ va_Nw (.methodLinkNest RX0 23 yX1_isAddress "ArcCache") U)) (va_Qi (fun (r : Int32) (u : ap_U) => (r, u) = ap_wr C x y (L, w, d, st, tg, hi, mi, go)) (at_X dC dI (va_A (cx q ca C L f w d st tg hi mi go) sz) q ca C) (va_A (cx q ca C L f w d st tg hi mi go) sz)) 0 0 (va_A (cx q ca C L f w d st tg hi mi go) sz) := by
  refine Met.ofW (cc := cX1_write) (maxL := 3) (ret := (some .boolean)) (by decide) rfl ?_
  intro p e s m args below meth c s₁ B hml hv
  obtain ⟨rfl, hsz, hP, hK, hD0, hN⟩ := hv
  have hx := B.exec
  have hb := B.bytes
  have hr := B.returns
  have hts := atoms_spec (ws := wsX1_write) B.pre
  have hown : s.vm.findClass RX1 = some m.cls := findClass_of_methodNamed B.named
  have hlocks := B.notSynchronized
  have hwX1 : ∀ w ∈ u_ws RX1 TX1 12, w ∈ wsX1_write := by decide +kernel
  subst hsz
  have hD := hD0.self (sz := s.heap.size)
  generalize hAe : va_A (cx q ca C L f w d st tg hi mi go) s.heap.size = A at hD ⊢
  have hA : ∀ q : Nat, s.heap.size ≤ q → A q := fun q h => by rw [← hAe]; exact Or.inr h
  have hS0 : ∀ H, s.heap = H → va_S A s.heap H [] := fun H h => by subst h; exact va_S.rf
  have hl := lv_entry ([.ref (q 0), .int x, .int y]) (n := 3) (Nat.le_of_ble_eq_true rfl)
  rw [lg_entry_eq]
  generalize (lg_sl ([.ref (q 0), .int x, .int y]) ++ List.replicate (3 - (lg_sl ([.ref (q 0), .int x, .int y])).length) Slot.unset).toArray = ls at hl ⊢
  have hl : lv_has ls 3 [(0, .ref (q 0)), (1, .int x), (2, .int y)] := hl
  generalize hHe : s.heap = H at hP ⊢
  have hS := hS0 H hHe
  refine lv_iload_n hx hb dX1_write_0 rfl (lv_at hl 1 rfl) ?_
  have hPc := hP.sub (ws' := []) [] rfl
  have hDc := hD.sub (ws' := []) [] (by decide) rfl
  have hFc := va_free (wc := []) hD hS hA [] rfl
  refine va_calli (va_runS (As := [.int x]) (rest := []) ⟨hx, hb, hml, hown, hts⟩ (c_X_isAddress l dC dI x H.size) (va_cwS 1 hts gX1_write_X1_isAddress rfl rfl rfl (by decide +kernel) ⟨Nat.le_of_ble_eq_true rfl, Nat.le_of_ble_eq_true rfl⟩) ⟨fun a U g mk q => by obtain ⟨q0, q1⟩ := q; exact ⟨q0, q1⟩, fun U hU hW => ⟨rfl, by show U.heap.size = _; rw [hU]⟩⟩ rfl rfl hl.1 rfl (lv_room (Nat.le_of_ble_eq_true rfl)) dX1_write_1 ⟨Nat.le_of_ble_eq_true rfl, Nat.le_of_ble_eq_true rfl⟩) hS (fun q _ h => hFc q h) hFc (fun r u t H1 locs ht hvm hw hB hz1 hk1 hS => ?_)
  obtain ⟨hP, hD⟩ := va_join (wr := (cx q ca C L f w d st tg hi mi go)) (w1 := []) hP hD [] [0, 1, 2, 3, 4, 5, 6, 7, 8, 9, 10, 11] rfl rfl (by decide) (by decide) hk1 hFc (fun k q h => by simp at h) ⟨fun i j p q h => by simp at h, fun k q h => by simp at h⟩
  generalize H1 = H at hP hS ⊢
  replace hP : va_P (dC, dI) vwCl (cx q ca C L f w d st tg hi mi go) H := hP
  replace hD : va_D A (cx q ca C L f w d st tg hi mi go) := hD
  by_cases hyes9 : x < 0 ∨ nI 64 ≤ x
  · rw [if_pos hyes9] at hw
    subst hw
    refine lv_if_ne (tgt := 9) hx hb dX1_write_4 (by decide) (fun c_4 => ?_) (fun c_4 => ?_)
    · skip
      replace c_4 : ¬ (0 = 0) := fun h9 => c_4 ((nI_eq (a := 0) (b := 0) (by omega) (by omega)).mpr h9)
      exact absurd c_4 (by omega)
    · skip
      replace c_4 : 0 = 0 := (nI_eq (a := 0) (b := 0) (by omega) (by omega)).mp c_4
      refine lv_iconst (v := nI 0) hx hb dX1_write_7 (by decide) ?_
      exact W.zret (v := nI 0) (ty := .boolean) hx hb hr (by decide) (fun t ht hW => ⟨⟨nI 0, (L, w, d, st, tg, hi, mi, go), rfl, by unfold ap_wr; rw [if_pos hyes9]; rfl, f, hf, by rw [ht]; exact hP, va_K.moved hW.alike hK, hD⟩, hS.F ht⟩) hS.2.2 dX1_write_8
  · have hno9 := hyes9
    rw [if_neg hno9] at hw
    subst hw
    have hx64 : vp_in x 64 := vp_in_64.mpr hno9
    refine lv_if_ne (tgt := 9) hx hb dX1_write_4 (by decide) (fun c_4 => ?_) (fun c_4 => ?_)
    · skip
      replace c_4 : ¬ (1 = 0) := fun h9 => c_4 ((nI_eq (a := 1) (b := 0) (by omega) (by omega)).mpr h9)
      refine lv_aload_n hx hb dX1_write_9 rfl (lv_at hl 0 rfl) ?_
      refine lv_iload_n hx hb dX1_write_10 rfl (lv_at hl 1 rfl) ?_
      have hPc := hP.sub (ws' := (cx q ca C L f w d st tg hi mi go)) [0, 1, 2, 3, 4, 5, 6, 7, 8, 9, 10, 11] rfl
      have hDc := hD.sub (ws' := (cx q ca C L f w d st tg hi mi go)) [0, 1, 2, 3, 4, 5, 6, 7, 8, 9, 10, 11] (by decide) rfl
      have hKc := hK.sub (tys' := (kx ca)) [0, 1, 2, 3, 4, 5, 6] rfl
      have hFc := va_free (wc := (cx q ca C L f w d st tg hi mi go)) hD hS hA [0, 1, 2, 3, 4, 5, 6, 7, 8, 9, 10, 11] rfl
      refine va_callv (va_runV (As := [.int x]) (rest := []) ⟨hx, hb, hml, hown, hts⟩ (c_X_request l dC dI q ca C L f w d st tg hi mi go x H.size hf hok hx64) (cwV 1 hts gX1_write_X1_request rfl rfl rfl (by decide +kernel) ⟨Nat.le_of_ble_eq_true rfl, Nat.le_of_ble_eq_true rfl⟩) ⟨fun a U g mk q => by obtain ⟨q0, q1, qP, qK, qD, qN⟩ := q; exact ⟨q0, q1, qP, va_K.moved (u := U) (U := U.calling g mk a) (Vm.Alike.refl U.vm) qK, qD, va_tabs rfl (rfl : U.vm = (U.calling g mk a).vm) qN⟩, va_recv hKc hPc (ci := 1) (q0 := 0) rfl rfl, fun U hU hW => ⟨rfl, by rw [hU], by rw [hU]; exact hPc, va_K.moved hW.alike hKc, hDc.weaken (fun _ _ _ _ => trivial), va_Nw.warmM hW hN⟩⟩ rfl rfl hl.1 rfl (lv_room (Nat.le_of_ble_eq_true rfl)) dX1_write_11 ⟨Nat.le_of_ble_eq_true rfl, Nat.le_of_ble_eq_true rfl⟩) hS (fun q _ h => hFc q h) hFc (fun u t H1 locs ht hvm hw hB hz1 hk1 hS => ?_)
      obtain ⟨L1, w1, d1, st1, tg1, hi1, mi1, go1⟩ := u
      obtain ⟨f1, hf1, hP1, hK1, hD1⟩ := hB
      rw [ht] at hP1
      have hw9 := hw
      obtain ⟨hP, hD⟩ := va_join (wr := []) (w1 := (cx q ca C L1 f1 w1 d1 st1 tg1 hi1 mi1 go1)) hP hD [0, 1, 2, 3, 4, 5, 6, 7, 8, 9, 10, 11] [] rfl rfl (by decide) (by decide) hk1 hFc hP1 hD1
      generalize H1 = H at hP hS ⊢
      replace hP : va_P (dC, dI) vwCl (cx q ca C L1 f1 w1 d1 st1 tg1 hi1 mi1 go1) H := hP
      replace hD : va_D A (cx q ca C L1 f1 w1 d1 st1 tg1 hi1 mi1 go1) := hD
      refine lv_aload_n hx hb dX1_write_14 rfl (lv_at hl 0 rfl) ?_
      refine va_get (D := (dC, dI)) (ci := 1) (v := .ref (q 9)) (C := RX1) (T := TX1) (N := 12) hx hb hts hwX1 hown hK hP 0 rfl rfl 5 (by decide) (hts (.fieldLink RX1 25 "ArcCache" "pageWords" "[I") (by decide +kernel)) (fun _ h9 => h9) rfl dX1_write_15 ?_
      refine lv_iload_n hx hb dX1_write_18 rfl (lv_at hl 1 rfl) ?_
      refine lv_iload_n hx hb dX1_write_19 rfl (lv_at hl 2 rfl) ?_
      refine va_iast hx hb hK hP hD hS 9 4 rfl rfl hx64 dX1_write_20 (fun H locs hP hD hS => ?_)
      replace hP : va_P (dC, dI) vwCl (cx q ca C L1 f1 (upd w1 x.toNatClampNeg y) d1 st1 tg1 hi1 mi1 go1) H := hP
      replace hD : va_D A (cx q ca C L1 f1 (upd w1 x.toNatClampNeg y) d1 st1 tg1 hi1 mi1 go1) := hD
      refine lv_aload_n hx hb dX1_write_21 rfl (lv_at hl 0 rfl) ?_
      refine va_get (D := (dC, dI)) (ci := 1) (v := .ref (q 10)) (C := RX1) (T := TX1) (N := 12) hx hb hts hwX1 hown hK hP 0 rfl rfl 6 (by decide) (hts (.fieldLink RX1 29 "ArcCache" "dirtyPages" "[Z") (by decide +kernel)) (fun _ h9 => h9) rfl dX1_write_22 ?_
      refine lv_iload_n hx hb dX1_write_25 rfl (lv_at hl 1 rfl) ?_
      refine lv_iconst (v := nI 1) hx hb dX1_write_26 (by decide) ?_
      refine va_zast hx hb hK hP hD hS 10 5 rfl rfl hx64 dX1_write_27 (fun H locs hP hD hS => ?_)
      rw [ap_nar1] at hP hD
      replace hP : va_P (dC, dI) vwCl (cx q ca C L1 f1 (upd w1 x.toNatClampNeg y) (upd d1 x.toNatClampNeg 1) st1 tg1 hi1 mi1 go1) H := hP
      replace hD : va_D A (cx q ca C L1 f1 (upd w1 x.toNatClampNeg y) (upd d1 x.toNatClampNeg 1) st1 tg1 hi1 mi1 go1) := hD
      refine lv_iconst (v := nI 1) hx hb dX1_write_28 (by decide) ?_
      exact W.zret (v := nI 1) (ty := .boolean) hx hb hr (by decide) (fun t ht hW => ⟨⟨nI 1, (L1, upd w1 x.toNatClampNeg y, upd d1 x.toNatClampNeg 1, st1, tg1, hi1, mi1, go1), rfl, by unfold ap_wr; rw [if_neg hno9, ← hw9]; rfl, f1, hf1, by rw [ht]; exact hP, va_K.moved hW.alike hK, hD⟩, hS.F ht⟩) hS.2.2 dX1_write_29
    · skip
      replace c_4 : 1 = 0 := (nI_eq (a := 1) (b := 0) (by omega) (by omega)).mp c_4
      exact absurd c_4 (by omega)
set_option maxHeartbeats 4000000 in
set_option maxRecDepth 100000 in
theorem c_X_flush (l : Launch) (dC : Nat → ClassId) (dI : Nat → Nat → Nat) (q : Nat → Nat) (ca : Nat → ClassId) (C : Nat) (L : Nat → List Int32) (f : Nat → Nat → Int32) (w d st : Nat → Int32) (tg : Nat) (hi mi go : Int32)  (sz : Nat) (hf : fx_ok f L) : Met l yX1_flush wsX1_flush ({ frames := 1, cells := 0, slots := 0, locals := 21 }) (va_Pc [.ref (q 0)] (fun U => U.heap.size = sz ∧ va_P (dC, dI) vwCl (cx q ca C L f w d st tg hi mi go) U.heap ∧ va_K (dC, dI) vwCl (kx ca) U ∧ va_D (fun _ => True) (cx q ca C L f w d st tg hi mi go))) (va_Qi (fun (r : Int32) (u : ap_U) => r = (ap_fl w (d, st, nI 0) 64).2.2 ∧ u = (L, w, (ap_fl w (d, st, nI 0) 64).1, (ap_fl w (d, st, nI 0) 64).2.1, tg, hi, mi, go)) (at_X dC dI (va_A (cx q ca C L f w d st tg hi mi go) sz) q ca C) (va_A (cx q ca C L f w d st tg hi mi go) sz)) 0 0 (va_A (cx q ca C L f w d st tg hi mi go) sz) := by
  refine Met.ofW (cc := cX1_flush) (maxL := 3) (ret := (some .int)) (by decide) rfl ?_
  intro p e s m args below meth c s₁ B hml hv
  obtain ⟨rfl, hsz, hP, hK, hD0⟩ := hv
  have hx := B.exec
  have hb := B.bytes
  have hr := B.returns
  have hts := atoms_spec (ws := wsX1_flush) B.pre
  have hown : s.vm.findClass RX1 = some m.cls := findClass_of_methodNamed B.named
  have hlocks := B.notSynchronized
  have hwX1 : ∀ w ∈ u_ws RX1 TX1 12, w ∈ wsX1_flush := by decide +kernel
  subst hsz
  have hD := hD0.self (sz := s.heap.size)
  generalize hAe : va_A (cx q ca C L f w d st tg hi mi go) s.heap.size = A at hD ⊢
  have hA : ∀ q : Nat, s.heap.size ≤ q → A q := fun q h => by rw [← hAe]; exact Or.inr h
  have hS0 : ∀ H, s.heap = H → va_S A s.heap H [] := fun H h => by subst h; exact va_S.rf
  have hl := lv_entry ([.ref (q 0)]) (n := 3) (Nat.le_of_ble_eq_true rfl)
  rw [lg_entry_eq]
  generalize (lg_sl ([.ref (q 0)]) ++ List.replicate (3 - (lg_sl ([.ref (q 0)])).length) Slot.unset).toArray = ls at hl ⊢
  have hl : lv_has ls 3 [(0, .ref (q 0))] := hl
  generalize hHe : s.heap = H at hP ⊢
  have hS := hS0 H hHe
  refine lv_iconst (v := nI 0) hx hb dX1_flush_0 (by decide) ?_
  refine lv_istore_n (lv' := [(1, .int (nI 0)), (0, .ref (q 0))]) hx hb dX1_flush_1 rfl hl (by decide) rfl (fun ls hl => ?_)
  refine lv_iconst (v := nI 0) hx hb dX1_flush_2 (by decide) ?_
  refine lv_istore_n (lv' := [(2, .int (nI 0)), (1, .int (nI 0)), (0, .ref (q 0))]) hx hb dX1_flush_3 rfl hl (by decide) rfl (fun ls hl => ?_)
  have loop : ∀ (k : Nat) (i : Nat) (g : Nat → Nat → Int32) (ls : Array Slot) (H : Heap) (locs : List Loc), (i ≤ 64) → (fx_ok g L) → lv_has ls 3 [(0, .ref (q 0)), (1, .int ((ap_fl w (d, st, nI 0) i).2.2)), (2, .int (nI i))] → va_P (dC, dI) vwCl (cx q ca C L g w ((ap_fl w (d, st, nI 0) i).1) ((ap_fl w (d, st, nI 0) i).2.1) tg hi mi go) H → va_D A (cx q ca C L g w ((ap_fl w (d, st, nI 0) i).1) ((ap_fl w (d, st, nI 0) i).2.1) tg hi mi go) → va_S A s.heap H locs → 65 ≤ i + k → W p l e (headSpec wsX1_flush ({ frames := 1, cells := 0, slots := 0, locals := 21 })).room s m ([.ref (q 0)] : List Value).toArray below meth c H locs 0 0 (MQ below (va_Qi (fun (r : Int32) (u : ap_U) => r = (ap_fl w (d, st, nI 0) 64).2.2 ∧ u = (L, w, (ap_fl w (d, st, nI 0) 64).1, (ap_fl w (d, st, nI 0) 64).2.1, tg, hi, mi, go)) (at_X dC dI A q ca C) A) ([.ref (q 0)] : List Value).toArray s 0 0 A) (F0 m 4 ls []) := by
    intro k
    induction k with
    | zero => intro i g ls H locs hi64 hg hl hP hD hS hk; exact absurd hk (by omega)
    | succ k ih =>
      intro i g ls H locs hi64 hg hl hP hD hS hk
      refine lv_iload_n hx hb dX1_flush_4 rfl (lv_at hl 2 rfl) ?_
      refine lv_bipush (v := nI 64) hx hb dX1_flush_5 (by decide) ?_
      refine lv_icmp_ge (tgt := 33) hx hb dX1_flush_7 (by decide) (fun c_7 => ?_) (fun c_7 => ?_)
      · skip
        replace c_7 : 64 ≤ i := (nI_leI (a := 64) (b := i) (by omega) (by omega)).mp c_7
        have e64 : i = 64 := by omega
        subst e64
        refine lv_iload_n hx hb dX1_flush_33 rfl (lv_at hl 1 rfl) ?_
        exact W.iret (v := (ap_fl w (d, st, nI 0) 64).2.2) hx hb hr (fun t ht hW => ⟨⟨(ap_fl w (d, st, nI 0) 64).2.2, (L, w, (ap_fl w (d, st, nI 0) 64).1, (ap_fl w (d, st, nI 0) 64).2.1, tg, hi, mi, go), rfl, ⟨rfl, rfl⟩, g, hg, by rw [ht]; exact hP, va_K.moved hW.alike hK, hD⟩, hS.F ht⟩) hS.2.2 dX1_flush_34
      · skip
        replace c_7 : ¬ (64 ≤ i) := fun h9 => c_7 ((nI_leI (a := 64) (b := i) (by omega) (by omega)).mpr h9)
        refine lv_aload_n hx hb dX1_flush_10 rfl (lv_at hl 0 rfl) ?_
        refine va_get (D := (dC, dI)) (ci := 1) (v := .ref (q 10)) (C := RX1) (T := TX1) (N := 12) hx hb hts hwX1 hown hK hP 0 rfl rfl 6 (by decide) (hts (.fieldLink RX1 29 "ArcCache" "dirtyPages" "[Z") (by decide +kernel)) (fun _ h9 => h9) rfl dX1_flush_11 ?_
        refine lv_iload_n hx hb dX1_flush_14 rfl (lv_at hl 2 rfl) ?_
        refine va_zald hx hb hK hP 10 5 rfl rfl (vp_in_nI (show i < 64 by omega) (by decide)) dX1_flush_15 ?_
        refine lv_topi (fun x_2 e_x_2 => ?_)
        have e_x_2 : x_2 = ((ap_fl w (d, st, nI 0) i).1) i := by rw [e_x_2]; rw [nI_clamp (by omega)]
        subst e_x_2
        refine lv_if_eq (tgt := 27) hx hb dX1_flush_16 (by decide) (fun c_16 => ?_) (fun c_16 => ?_)
        · skip
          refine lv_iinc (v := nI (i + 1)) (lv' := [(2, .int (nI (i + 1))), (0, .ref (q 0)), (1, .int ((ap_fl w (d, st, nI 0) i).2.2))]) hx hb dX1_flush_27 hl (k := 2) rfl (nI_add _ _) (by decide) rfl (fun ls hl => ?_)
          refine lv_goto (tgt := 4) hx hb dX1_flush_30 (by decide) ?_
          have eF9 : (ap_fl w (d, st, nI 0) (i + 1)) = (ap_fl w (d, st, nI 0) i) := ap_f1_0 (by omega) c_16
          replace hP : va_P (dC, dI) vwCl (cx q ca C L g w ((ap_fl w (d, st, nI 0) (i + 1)).1) ((ap_fl w (d, st, nI 0) (i + 1)).2.1) tg hi mi go) H := by rw [eF9]; exact hP
          replace hD : va_D A (cx q ca C L g w ((ap_fl w (d, st, nI 0) (i + 1)).1) ((ap_fl w (d, st, nI 0) (i + 1)).2.1) tg hi mi go) := by rw [eF9]; exact hD
          replace hl : lv_has ls 3 [(2, .int (nI (i + 1))), (0, .ref (q 0)), (1, .int ((ap_fl w (d, st, nI 0) (i + 1)).2.2))] := by rw [eF9]; exact hl
          exact ih (i + 1) g _ _ _ (by omega) hg (lv_sub hl [1, 2, 0] rfl) hP hD hS (by omega)
        · skip
          refine lv_aload_n hx hb dX1_flush_19 rfl (lv_at hl 0 rfl) ?_
          refine lv_iload_n hx hb dX1_flush_20 rfl (lv_at hl 2 rfl) ?_
          have hPc := hP.sub (ws' := (cx q ca C L g w ((ap_fl w (d, st, nI 0) i).1) ((ap_fl w (d, st, nI 0) i).2.1) tg hi mi go)) [0, 1, 2, 3, 4, 5, 6, 7, 8, 9, 10, 11] rfl
          have hDc := hD.sub (ws' := (cx q ca C L g w ((ap_fl w (d, st, nI 0) i).1) ((ap_fl w (d, st, nI 0) i).2.1) tg hi mi go)) [0, 1, 2, 3, 4, 5, 6, 7, 8, 9, 10, 11] (by decide) rfl
          have hKc := hK.sub (tys' := (kx ca)) [0, 1, 2, 3, 4, 5, 6] rfl
          have hFc := va_free (wc := (cx q ca C L g w ((ap_fl w (d, st, nI 0) i).1) ((ap_fl w (d, st, nI 0) i).2.1) tg hi mi go)) hD hS hA [0, 1, 2, 3, 4, 5, 6, 7, 8, 9, 10, 11] rfl
          refine va_callv (va_runV (As := [.int (nI i)]) (rest := []) ⟨hx, hb, hml, hown, hts⟩ (c_X_writeBack l dC dI q ca C L g w ((ap_fl w (d, st, nI 0) i).1) ((ap_fl w (d, st, nI 0) i).2.1) tg hi mi go (nI i) H.size hg (vp_in_nI (show i < 64 by omega) (by decide))) (cwV 1 hts gX1_flush_X1_writeBack rfl rfl rfl (by decide +kernel) ⟨Nat.le_of_ble_eq_true rfl, Nat.le_of_ble_eq_true rfl⟩) ⟨fun a U g mk q => by obtain ⟨q0, q1, qP, qK, qD⟩ := q; exact ⟨q0, q1, qP, va_K.moved (u := U) (U := U.calling g mk a) (Vm.Alike.refl U.vm) qK, qD⟩, va_recv hKc hPc (ci := 1) (q0 := 0) rfl rfl, fun U hU hW => ⟨rfl, by rw [hU], by rw [hU]; exact hPc, va_K.moved hW.alike hKc, hDc.weaken (fun _ _ _ _ => trivial)⟩⟩ rfl rfl hl.1 rfl (lv_room (Nat.le_of_ble_eq_true rfl)) dX1_flush_21 ⟨Nat.le_of_ble_eq_true rfl, Nat.le_of_ble_eq_true rfl⟩) hS (fun q _ h => hFc q h) hFc (fun u t H1 locs ht hvm hw hB hz1 hk1 hS => ?_)
          obtain ⟨L1, w1, d1, st1, tg1, hi1, mi1, go1⟩ := u
          obtain ⟨f1, hf1, hP1, hK1, hD1⟩ := hB
          rw [ht] at hP1
          cases hw
          obtain ⟨f_3, ef_3⟩ : ∃ z, z = f1 := ⟨_, rfl⟩
          rw [← ef_3] at hf1 hP1 hD1
          clear ef_3 f1
          have hfx_4 := hf1
          obtain ⟨hP, hD⟩ := va_join (wr := []) (w1 := (cx q ca C L f_3 w (upd (ap_fl w (d, st, nI 0) i).1 (nI i).toNatClampNeg 0) (upd (ap_fl w (d, st, nI 0) i).2.1 (nI i).toNatClampNeg (w (nI i).toNatClampNeg)) tg hi mi go)) hP hD [0, 1, 2, 3, 4, 5, 6, 7, 8, 9, 10, 11] [] rfl rfl (by decide) (by decide) hk1 hFc hP1 hD1
          generalize H1 = H at hP hS ⊢
          replace hP : va_P (dC, dI) vwCl (cx q ca C L f_3 w (upd (ap_fl w (d, st, nI 0) i).1 (nI i).toNatClampNeg 0) (upd (ap_fl w (d, st, nI 0) i).2.1 (nI i).toNatClampNeg (w (nI i).toNatClampNeg)) tg hi mi go) H := hP
          replace hD : va_D A (cx q ca C L f_3 w (upd (ap_fl w (d, st, nI 0) i).1 (nI i).toNatClampNeg 0) (upd (ap_fl w (d, st, nI 0) i).2.1 (nI i).toNatClampNeg (w (nI i).toNatClampNeg)) tg hi mi go) := hD
          refine lv_iinc (v := (ap_fl w (d, st, nI 0) i).2.2 + 1) (lv' := [(1, .int ((ap_fl w (d, st, nI 0) i).2.2 + 1)), (0, .ref (q 0)), (2, .int (nI i))]) hx hb dX1_flush_24 hl (k := 1) rfl (rfl) (by decide) rfl (fun ls hl => ?_)
          refine lv_iinc (v := nI (i + 1)) (lv' := [(2, .int (nI (i + 1))), (1, .int ((ap_fl w (d, st, nI 0) i).2.2 + 1)), (0, .ref (q 0))]) hx hb dX1_flush_27 hl (k := 2) rfl (nI_add _ _) (by decide) rfl (fun ls hl => ?_)
          refine lv_goto (tgt := 4) hx hb dX1_flush_30 (by decide) ?_
          have eF9 : (ap_fl w (d, st, nI 0) (i + 1)) = (upd (ap_fl w (d, st, nI 0) i).1 i 0, upd (ap_fl w (d, st, nI 0) i).2.1 i (w i), (ap_fl w (d, st, nI 0) i).2.2 + 1) := ap_f1_1 (by omega) c_16
          rw [nI_clamp (show i < 2 ^ 31 by omega)] at hP hD
          replace hP : va_P (dC, dI) vwCl (cx q ca C L f_3 w ((ap_fl w (d, st, nI 0) (i + 1)).1) ((ap_fl w (d, st, nI 0) (i + 1)).2.1) tg hi mi go) H := by rw [eF9]; exact hP
          replace hD : va_D A (cx q ca C L f_3 w ((ap_fl w (d, st, nI 0) (i + 1)).1) ((ap_fl w (d, st, nI 0) (i + 1)).2.1) tg hi mi go) := by rw [eF9]; exact hD
          replace hl : lv_has ls 3 [(2, .int (nI (i + 1))), (1, .int ((ap_fl w (d, st, nI 0) (i + 1)).2.2)), (0, .ref (q 0))] := by rw [eF9]; exact hl
          exact ih (i + 1) f_3 _ _ _ (by omega) hfx_4 (lv_sub hl [2, 1, 0] rfl) hP hD hS (by omega)
  exact loop 65 0 f ls H _ (Nat.zero_le _) hf (lv_sub hl [2, 1, 0] rfl) hP hD hS (by omega)
set_option maxHeartbeats 4000000 in
set_option maxRecDepth 100000 in
theorem c_J_fill (l : Launch) (dC : Nat → ClassId) (dI : Nat → Nat → Nat) (a : Nat) (cA : ClassId) (f : Nat → Int32) (sz : Nat)  : Met l yJ7_fill_53178 wsJ7_fill_53178 ({ frames := 0, cells := 0, slots := 0, locals := 0 }) (va_Pc [.ref a, .int (nI 0)] (fun U => U.heap.size = sz ∧ va_P (dC, dI) vwCl (cfa a cA f) U.heap ∧ va_K (dC, dI) vwCl (kal cA) U ∧ va_D (fun _ => True) (cfa a cA f))) (va_Qv (fun (u : Nat → Int32) => u = ap_z 64 f) (fun (u : Nat → Int32) (t9 : State) => va_P (dC, dI) vwCl (cfa a cA u) t9.heap ∧ va_K (dC, dI) vwCl (kal cA) t9 ∧ va_D (va_A (cfa a cA f) sz) (cfa a cA u)) (va_A (cfa a cA f) sz)) 0 0 (va_A (cfa a cA f) sz) := by
  refine Met.ofW (cc := cJ7_fill_53178) (maxL := 4) (ret := none) (by decide) rfl ?_
  intro p e s m args below meth c s₁ B hml hv
  obtain ⟨rfl, hsz, hP, hK, hD0⟩ := hv
  have hx := B.exec
  have hb := B.bytes
  have hr := B.returns
  have hts := atoms_spec (ws := wsJ7_fill_53178) B.pre
  have hown : s.vm.findClass RJ7 = some m.cls := findClass_of_methodNamed B.named
  have hlocks := B.notSynchronized
  subst hsz
  have hD := hD0.self (sz := s.heap.size)
  generalize hAe : va_A (cfa a cA f) s.heap.size = A at hD ⊢
  have hA : ∀ q : Nat, s.heap.size ≤ q → A q := fun q h => by rw [← hAe]; exact Or.inr h
  have hS0 : ∀ H, s.heap = H → va_S A s.heap H [] := fun H h => by subst h; exact va_S.rf
  have hl := lv_entry ([.ref a, .int (nI 0)]) (n := 4) (Nat.le_of_ble_eq_true rfl)
  rw [lg_entry_eq]
  generalize (lg_sl ([.ref a, .int (nI 0)]) ++ List.replicate (4 - (lg_sl ([.ref a, .int (nI 0)])).length) Slot.unset).toArray = ls at hl ⊢
  have hl : lv_has ls 4 [(0, .ref a), (1, .int (nI 0))] := hl
  generalize hHe : s.heap = H at hP ⊢
  have hS := hS0 H hHe
  refine lv_iconst (v := nI 0) hx hb dJ7_fill_53178_0 (by decide) ?_
  refine lv_istore_n (lv' := [(2, .int (nI 0)), (0, .ref a), (1, .int (nI 0))]) hx hb dJ7_fill_53178_1 rfl hl (by decide) rfl (fun ls hl => ?_)
  refine lv_aload_n hx hb dJ7_fill_53178_2 rfl (lv_at hl 1 rfl) ?_
  refine va_alen (v := nI 64) hx hb hK hP 0 0 rfl rfl rfl dJ7_fill_53178_3 ?_
  refine lv_istore_n (lv' := [(3, .int (nI 64)), (2, .int (nI 0)), (0, .ref a), (1, .int (nI 0))]) hx hb dJ7_fill_53178_4 rfl hl (by decide) rfl (fun ls hl => ?_)
  rw [← ap_z_0 (f := f)] at hP hD
  have loop : ∀ (k : Nat) (i : Nat) (ls : Array Slot) (H : Heap) (locs : List Loc), (i ≤ 64) → lv_has ls 4 [(0, .ref a), (1, .int (nI 0)), (2, .int (nI i)), (3, .int (nI 64))] → va_P (dC, dI) vwCl (cfa a cA (ap_z i f)) H → va_D A (cfa a cA (ap_z i f)) → va_S A s.heap H locs → 65 ≤ i + k → W p l e (headSpec wsJ7_fill_53178 ({ frames := 0, cells := 0, slots := 0, locals := 0 })).room s m ([.ref a, .int (nI 0)] : List Value).toArray below meth c H locs 0 0 (MQ below (va_Qv (fun (u : Nat → Int32) => u = ap_z 64 f) (fun (u : Nat → Int32) (t9 : State) => va_P (dC, dI) vwCl (cfa a cA u) t9.heap ∧ va_K (dC, dI) vwCl (kal cA) t9 ∧ va_D A (cfa a cA u)) A) ([.ref a, .int (nI 0)] : List Value).toArray s 0 0 A) (F0 m 5 ls []) := by
    intro k
    induction k with
    | zero => intro i ls H locs hi64 hl hP hD hS hk; exact absurd hk (by omega)
    | succ k ih =>
      intro i ls H locs hi64 hl hP hD hS hk
      refine lv_iload_n hx hb dJ7_fill_53178_5 rfl (lv_at hl 2 rfl) ?_
      refine lv_iload_n hx hb dJ7_fill_53178_6 rfl (lv_at hl 3 rfl) ?_
      refine lv_icmp_ge (tgt := 20) hx hb dJ7_fill_53178_7 (by decide) (fun c_7 => ?_) (fun c_7 => ?_)
      · skip
        replace c_7 : 64 ≤ i := (nI_leI (a := 64) (b := i) (by omega) (by omega)).mp c_7
        have e64 : i = 64 := by omega
        subst e64
        exact W.vret hx hb hr (fun t ht hW => ⟨⟨ap_z 64 f, rfl, rfl, by rw [ht]; exact hP, va_K.moved hW.alike hK, hD⟩, hS.F ht⟩) hS.2.2 dJ7_fill_53178_20
      · skip
        replace c_7 : ¬ (64 ≤ i) := fun h9 => c_7 ((nI_leI (a := 64) (b := i) (by omega) (by omega)).mpr h9)
        refine lv_aload_n hx hb dJ7_fill_53178_10 rfl (lv_at hl 0 rfl) ?_
        refine lv_iload_n hx hb dJ7_fill_53178_11 rfl (lv_at hl 2 rfl) ?_
        refine lv_iload_n hx hb dJ7_fill_53178_12 rfl (lv_at hl 1 rfl) ?_
        refine va_iast hx hb hK hP hD hS 0 0 rfl rfl (vp_in_nI (show i < 64 by omega) (by decide)) dJ7_fill_53178_13 (fun H locs hP hD hS => ?_)
        rw [nI_clamp (show i < 2 ^ 31 by omega)] at hP hD
        replace hP : va_P (dC, dI) vwCl (cfa a cA (upd (ap_z i f) i (nI 0))) H := hP
        replace hD : va_D A (cfa a cA (upd (ap_z i f) i (nI 0))) := hD
        refine lv_iinc (v := nI (i + 1)) (lv' := [(2, .int (nI (i + 1))), (0, .ref a), (1, .int (nI 0)), (3, .int (nI 64))]) hx hb dJ7_fill_53178_14 hl (k := 2) rfl (nI_add _ _) (by decide) rfl (fun ls hl => ?_)
        refine lv_goto (tgt := 5) hx hb dJ7_fill_53178_17 (by decide) ?_
        replace hP : va_P (dC, dI) vwCl (cfa a cA (ap_z (i + 1) f)) H := by rw [← ap_z_s]; exact hP
        replace hD : va_D A (cfa a cA (ap_z (i + 1) f)) := by rw [← ap_z_s]; exact hD
        exact ih (i + 1) _ _ _ (by omega) (lv_sub hl [1, 2, 0, 3] rfl) hP hD hS (by omega)
  exact loop 65 0 ls H _ (Nat.zero_le _) (lv_sub hl [2, 3, 1, 0] rfl) hP hD hS (by omega)
