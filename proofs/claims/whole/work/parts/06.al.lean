-- THE ADDRESS LIST: contracts (laid by wip/gen/al.py)
set_option maxHeartbeats 4000000 in
set_option maxRecDepth 100000 in
theorem c_A_size (l : Launch) (dC : Nat → ClassId) (dI : Nat → Nat → Nat) (q a : Nat) (cA : ClassId) (n : Nat) (f : Nat → Int32) (sz : Nat)  : Met l yX0_size wsX0_size ({ frames := 0, cells := 0, slots := 0, locals := 0 }) (va_Pc [.ref q] (fun U => U.heap.size = sz ∧ va_P (dC, dI) vwCl (cal q a cA n f) U.heap ∧ va_K (dC, dI) vwCl (kal cA) U ∧ va_D (fun _ => True) (cal q a cA n f))) (va_Qi (fun (r : Int32) (u : Nat × (Nat → Int32)) => r = nI n ∧ u = (n, f)) (at_A dC dI (va_A (cal q a cA n f) sz) q a cA) (va_A (cal q a cA n f) sz)) 0 0 (va_A (cal q a cA n f) sz) := by
  refine Met.ofW (cc := cX0_size) (maxL := 1) (ret := (some .int)) (by decide) rfl ?_
  intro p e s m args below meth c s₁ B hml hv
  obtain ⟨rfl, hsz, hP, hK, hD0⟩ := hv
  have hx := B.exec
  have hb := B.bytes
  have hr := B.returns
  have hts := atoms_spec (ws := wsX0_size) B.pre
  have hown : s.vm.findClass RX0 = some m.cls := findClass_of_methodNamed B.named
  have hlocks := B.notSynchronized
  have hwX0 : ∀ w ∈ u_ws RX0 TX0 2, w ∈ wsX0_size := by decide +kernel
  subst hsz
  have hD := hD0.self (sz := s.heap.size)
  generalize hAe : va_A (cal q a cA n f) s.heap.size = A at hD ⊢
  have hA : ∀ q : Nat, s.heap.size ≤ q → A q := fun q h => by rw [← hAe]; exact Or.inr h
  have hS0 : ∀ H, s.heap = H → va_S A s.heap H [] := fun H h => by subst h; exact va_S.rf
  have hl := lv_entry ([.ref q]) (n := 1) (Nat.le_of_ble_eq_true rfl)
  rw [lg_entry_eq]
  generalize (lg_sl ([.ref q]) ++ List.replicate (1 - (lg_sl ([.ref q])).length) Slot.unset).toArray = ls at hl ⊢
  have hl : lv_has ls 1 [(0, .ref q)] := hl
  generalize hHe : s.heap = H at hP ⊢
  have hS := hS0 H hHe
  refine lv_aload_n hx hb dX0_size_0 rfl (lv_at hl 0 rfl) ?_
  refine va_get (D := (dC, dI)) (ci := 0) (v := .int (nI n)) (C := RX0) (T := TX0) (N := 2) hx hb hts hwX0 hown hK hP 0 rfl rfl 1 (by decide) (hts (.fieldLink RX0 15 "ArcCache$AddressList" "count" "I") (by decide +kernel)) (fun _ h9 => h9) rfl dX0_size_1 ?_
  exact W.iret (v := nI n) hx hb hr (fun t ht hW => ⟨⟨nI n, (n, f), rfl, ⟨rfl, rfl⟩, by rw [ht]; exact hP, va_K.moved hW.alike hK, hD⟩, hS.F ht⟩) hS.2.2 dX0_size_4
set_option maxHeartbeats 4000000 in
set_option maxRecDepth 100000 in
theorem c_A_empty (l : Launch) (dC : Nat → ClassId) (dI : Nat → Nat → Nat) (q a : Nat) (cA : ClassId) (n : Nat) (f : Nat → Int32) (sz : Nat)  : Met l yX0_empty wsX0_empty ({ frames := 0, cells := 0, slots := 0, locals := 0 }) (va_Pc [.ref q] (fun U => U.heap.size = sz ∧ va_P (dC, dI) vwCl (cal q a cA n f) U.heap ∧ va_K (dC, dI) vwCl (kal cA) U ∧ va_D (fun _ => True) (cal q a cA n f))) (va_Qv (fun (u : Nat × (Nat → Int32)) => u = (0, f)) (at_A dC dI (va_A (cal q a cA n f) sz) q a cA) (va_A (cal q a cA n f) sz)) 0 0 (va_A (cal q a cA n f) sz) := by
  refine Met.ofW (cc := cX0_empty) (maxL := 1) (ret := none) (by decide) rfl ?_
  intro p e s m args below meth c s₁ B hml hv
  obtain ⟨rfl, hsz, hP, hK, hD0⟩ := hv
  have hx := B.exec
  have hb := B.bytes
  have hr := B.returns
  have hts := atoms_spec (ws := wsX0_empty) B.pre
  have hown : s.vm.findClass RX0 = some m.cls := findClass_of_methodNamed B.named
  have hlocks := B.notSynchronized
  have hwX0 : ∀ w ∈ u_ws RX0 TX0 2, w ∈ wsX0_empty := by decide +kernel
  subst hsz
  have hD := hD0.self (sz := s.heap.size)
  generalize hAe : va_A (cal q a cA n f) s.heap.size = A at hD ⊢
  have hA : ∀ q : Nat, s.heap.size ≤ q → A q := fun q h => by rw [← hAe]; exact Or.inr h
  have hS0 : ∀ H, s.heap = H → va_S A s.heap H [] := fun H h => by subst h; exact va_S.rf
  have hl := lv_entry ([.ref q]) (n := 1) (Nat.le_of_ble_eq_true rfl)
  rw [lg_entry_eq]
  generalize (lg_sl ([.ref q]) ++ List.replicate (1 - (lg_sl ([.ref q])).length) Slot.unset).toArray = ls at hl ⊢
  have hl : lv_has ls 1 [(0, .ref q)] := hl
  generalize hHe : s.heap = H at hP ⊢
  have hS := hS0 H hHe
  refine lv_aload_n hx hb dX0_empty_0 rfl (lv_at hl 0 rfl) ?_
  refine lv_iconst (v := nI 0) hx hb dX0_empty_1 (by decide) ?_
  refine va_put (D := (dC, dI)) (ci := 0) (v := .int (nI 0)) (ty := .int) (C := RX0) (T := TX0) (N := 2) hx hb hts hwX0 tyX0 tyX0_ok nmX0 hown hK hP hD hS 0 rfl rfl 1 (by decide) (hts (.fieldLink RX0 15 "ArcCache$AddressList" "count" "I") (by decide +kernel)) (fun _ h9 => h9) rfl (by decide +kernel) rfl rfl (Nat.le_of_ble_eq_true rfl) dX0_empty_2 (fun H locs hP hD hS => ?_)
  replace hP : va_P (dC, dI) vwCl (cal q a cA 0 f) H := hP
  replace hD : va_D A (cal q a cA 0 f) := hD
  exact W.vret hx hb hr (fun t ht hW => ⟨⟨(0, f), rfl, rfl, by rw [ht]; exact hP, va_K.moved hW.alike hK, hD⟩, hS.F ht⟩) hS.2.2 dX0_empty_5
set_option maxHeartbeats 4000000 in
set_option maxRecDepth 100000 in
theorem c_A_placeOf (l : Launch) (dC : Nat → ClassId) (dI : Nat → Nat → Nat) (q a : Nat) (cA : ClassId) (n : Nat) (f : Nat → Int32) (x : Int32) (sz : Nat) (hn : n ≤ 64) : Met l yX0_placeOf wsX0_placeOf ({ frames := 0, cells := 0, slots := 0, locals := 0 }) (va_Pc [.ref q, .int x] (fun U => U.heap.size = sz ∧ va_P (dC, dI) vwCl (cal q a cA n f) U.heap ∧ va_K (dC, dI) vwCl (kal cA) U ∧ va_D (fun _ => True) (cal q a cA n f))) (va_Qi (fun (r : Int32) (u : Nat × (Nat → Int32)) => u = (n, f) ∧ ((r = -1 ∧ ∀ j, j < n → f j ≠ x) ∨ ∃ p, r = nI p ∧ p < n ∧ f p = x)) (at_A dC dI (va_A (cal q a cA n f) sz) q a cA) (va_A (cal q a cA n f) sz)) 0 0 (va_A (cal q a cA n f) sz) := by
  refine Met.ofW (cc := cX0_placeOf) (maxL := 3) (ret := (some .int)) (by decide) rfl ?_
  intro p e s m args below meth c s₁ B hml hv
  obtain ⟨rfl, hsz, hP, hK, hD0⟩ := hv
  have hx := B.exec
  have hb := B.bytes
  have hr := B.returns
  have hts := atoms_spec (ws := wsX0_placeOf) B.pre
  have hown : s.vm.findClass RX0 = some m.cls := findClass_of_methodNamed B.named
  have hlocks := B.notSynchronized
  have hwX0 : ∀ w ∈ u_ws RX0 TX0 2, w ∈ wsX0_placeOf := by decide +kernel
  subst hsz
  have hD := hD0.self (sz := s.heap.size)
  generalize hAe : va_A (cal q a cA n f) s.heap.size = A at hD ⊢
  have hA : ∀ q : Nat, s.heap.size ≤ q → A q := fun q h => by rw [← hAe]; exact Or.inr h
  have hS0 : ∀ H, s.heap = H → va_S A s.heap H [] := fun H h => by subst h; exact va_S.rf
  have hl := lv_entry ([.ref q, .int x]) (n := 3) (Nat.le_of_ble_eq_true rfl)
  rw [lg_entry_eq]
  generalize (lg_sl ([.ref q, .int x]) ++ List.replicate (3 - (lg_sl ([.ref q, .int x])).length) Slot.unset).toArray = ls at hl ⊢
  have hl : lv_has ls 3 [(0, .ref q), (1, .int x)] := hl
  generalize hHe : s.heap = H at hP ⊢
  have hS := hS0 H hHe
  refine lv_iconst (v := nI 0) hx hb dX0_placeOf_0 (by decide) ?_
  refine lv_istore_n (lv' := [(2, .int (nI 0)), (0, .ref q), (1, .int x)]) hx hb dX0_placeOf_1 rfl hl (by decide) rfl (fun ls hl => ?_)
  have loop : ∀ (k : Nat) (i : Nat) (ls : Array Slot) (H : Heap) (locs : List Loc), (i ≤ n) → (∀ j, j < i → f j ≠ x) → lv_has ls 3 [(0, .ref q), (1, .int x), (2, .int (nI i))] → va_P (dC, dI) vwCl (cal q a cA n f) H → va_D A (cal q a cA n f) → va_S A s.heap H locs → n + 1 ≤ i + k → W p l e (headSpec wsX0_placeOf ({ frames := 0, cells := 0, slots := 0, locals := 0 })).room s m ([.ref q, .int x] : List Value).toArray below meth c H locs 0 0 (MQ below (va_Qi (fun (r : Int32) (u : Nat × (Nat → Int32)) => u = (n, f) ∧ ((r = -1 ∧ ∀ j, j < n → f j ≠ x) ∨ ∃ p, r = nI p ∧ p < n ∧ f p = x)) (at_A dC dI A q a cA) A) ([.ref q, .int x] : List Value).toArray s 0 0 A) (F0 m 2 ls []) := by
    intro k
    induction k with
    | zero => intro i ls H locs hile hinv hl hP hD hS hk; exact absurd hk (by omega)
    | succ k ih =>
      intro i ls H locs hile hinv hl hP hD hS hk
      refine lv_iload_n hx hb dX0_placeOf_2 rfl (lv_at hl 2 rfl) ?_
      refine lv_aload_n hx hb dX0_placeOf_3 rfl (lv_at hl 0 rfl) ?_
      refine va_get (D := (dC, dI)) (ci := 0) (v := .int (nI n)) (C := RX0) (T := TX0) (N := 2) hx hb hts hwX0 hown hK hP 0 rfl rfl 1 (by decide) (hts (.fieldLink RX0 15 "ArcCache$AddressList" "count" "I") (by decide +kernel)) (fun _ h9 => h9) rfl dX0_placeOf_4 ?_
      refine lv_icmp_ge (tgt := 28) hx hb dX0_placeOf_7 (by decide) (fun c_7 => ?_) (fun c_7 => ?_)
      · skip
        replace c_7 : n ≤ i := (nI_leI (a := n) (b := i) (by omega) (by omega)).mp c_7
        refine lv_iconst (v := -1) hx hb dX0_placeOf_28 (by decide) ?_
        exact W.iret (v := -1) hx hb hr (fun t ht hW => ⟨⟨-1, (n, f), rfl, ⟨rfl, Or.inl ⟨rfl, fun j hj => hinv j (by omega)⟩⟩, by rw [ht]; exact hP, va_K.moved hW.alike hK, hD⟩, hS.F ht⟩) hS.2.2 dX0_placeOf_29
      · skip
        replace c_7 : ¬ (n ≤ i) := fun h9 => c_7 ((nI_leI (a := n) (b := i) (by omega) (by omega)).mpr h9)
        refine lv_aload_n hx hb dX0_placeOf_10 rfl (lv_at hl 0 rfl) ?_
        refine va_get (D := (dC, dI)) (ci := 0) (v := .ref a) (C := RX0) (T := TX0) (N := 2) hx hb hts hwX0 hown hK hP 0 rfl rfl 0 (by decide) (hts (.fieldLink RX0 9 "ArcCache$AddressList" "oldestFirst" "[I") (by decide +kernel)) (fun _ h9 => h9) rfl dX0_placeOf_11 ?_
        refine lv_iload_n hx hb dX0_placeOf_14 rfl (lv_at hl 2 rfl) ?_
        refine va_iald hx hb hK hP 1 0 rfl rfl (vp_in_nI (show i < 64 by omega) (by decide)) dX0_placeOf_15 ?_
        refine lv_topi (fun x_2 e_x_2 => ?_)
        have e_x_2 : x_2 = f i := by rw [e_x_2]; rw [nI_clamp (by omega)]
        subst e_x_2
        refine lv_iload_n hx hb dX0_placeOf_16 rfl (lv_at hl 1 rfl) ?_
        refine lv_icmp_ne (tgt := 22) hx hb dX0_placeOf_17 (by decide) (fun c_17 => ?_) (fun c_17 => ?_)
        · skip
          refine lv_iinc (v := nI (i + 1)) (lv' := [(2, .int (nI (i + 1))), (0, .ref q), (1, .int x)]) hx hb dX0_placeOf_22 hl (k := 2) rfl (nI_add _ _) (by decide) rfl (fun ls hl => ?_)
          refine lv_goto (tgt := 2) hx hb dX0_placeOf_25 (by decide) ?_
          exact ih (i + 1) _ _ _ (by omega) (lt_s (p := fun j => f j ≠ x) hinv c_17) (lv_sub hl [1, 2, 0] rfl) hP hD hS (by omega)
        · skip
          refine lv_iload_n hx hb dX0_placeOf_20 rfl (lv_at hl 2 rfl) ?_
          exact W.iret (v := nI i) hx hb hr (fun t ht hW => ⟨⟨nI i, (n, f), rfl, ⟨rfl, Or.inr ⟨i, rfl, by omega, c_17⟩⟩, by rw [ht]; exact hP, va_K.moved hW.alike hK, hD⟩, hS.F ht⟩) hS.2.2 dX0_placeOf_21
  exact loop (n + 1) 0 ls H _ (Nat.zero_le _) (fun j hj => absurd hj (Nat.not_lt_zero j)) (lv_sub hl [1, 2, 0] rfl) hP hD hS (by omega)
set_option maxHeartbeats 4000000 in
set_option maxRecDepth 100000 in
theorem c_A_has (l : Launch) (dC : Nat → ClassId) (dI : Nat → Nat → Nat) (q a : Nat) (cA : ClassId) (l0 : List Int32) (f : Nat → Int32) (x : Int32) (sz : Nat) (hn : l0.length ≤ 64) (hf : ar_is f l0.reverse) : Met l yX0_has wsX0_has ({ frames := 1, cells := 0, slots := 0, locals := 22 }) (va_Pc [.ref q, .int x] (fun U => U.heap.size = sz ∧ va_P (dC, dI) vwCl (cal q a cA l0.length f) U.heap ∧ va_K (dC, dI) vwCl (kal cA) U ∧ va_D (fun _ => True) (cal q a cA l0.length f))) (va_Qi (fun (r : Int32) (u : Nat × (Nat → Int32)) => r = (if x ∈ l0 then nI 1 else nI 0) ∧ u = (l0.length, f)) (at_A dC dI (va_A (cal q a cA l0.length f) sz) q a cA) (va_A (cal q a cA l0.length f) sz)) 0 0 (va_A (cal q a cA l0.length f) sz) := by
  refine Met.ofW (cc := cX0_has) (maxL := 2) (ret := (some .boolean)) (by decide) rfl ?_
  intro p e s m args below meth c s₁ B hml hv
  obtain ⟨rfl, hsz, hP, hK, hD0⟩ := hv
  have hx := B.exec
  have hb := B.bytes
  have hr := B.returns
  have hts := atoms_spec (ws := wsX0_has) B.pre
  have hown : s.vm.findClass RX0 = some m.cls := findClass_of_methodNamed B.named
  have hlocks := B.notSynchronized
  have hwX0 : ∀ w ∈ u_ws RX0 TX0 2, w ∈ wsX0_has := by decide +kernel
  subst hsz
  have hD := hD0.self (sz := s.heap.size)
  generalize hAe : va_A (cal q a cA l0.length f) s.heap.size = A at hD ⊢
  have hA : ∀ q : Nat, s.heap.size ≤ q → A q := fun q h => by rw [← hAe]; exact Or.inr h
  have hS0 : ∀ H, s.heap = H → va_S A s.heap H [] := fun H h => by subst h; exact va_S.rf
  have hl := lv_entry ([.ref q, .int x]) (n := 2) (Nat.le_of_ble_eq_true rfl)
  rw [lg_entry_eq]
  generalize (lg_sl ([.ref q, .int x]) ++ List.replicate (2 - (lg_sl ([.ref q, .int x])).length) Slot.unset).toArray = ls at hl ⊢
  have hl : lv_has ls 2 [(0, .ref q), (1, .int x)] := hl
  generalize hHe : s.heap = H at hP ⊢
  have hS := hS0 H hHe
  refine lv_aload_n hx hb dX0_has_0 rfl (lv_at hl 0 rfl) ?_
  refine lv_iload_n hx hb dX0_has_1 rfl (lv_at hl 1 rfl) ?_
  have hPc := hP.sub (ws' := (cal q a cA l0.length f)) [0, 1] rfl
  have hDc := hD.sub (ws' := (cal q a cA l0.length f)) [0, 1] (by decide) rfl
  have hKc := hK.sub (tys' := (kal cA)) [0] rfl
  have hFc := va_free (wc := (cal q a cA l0.length f)) hD hS hA [0, 1] rfl
  refine va_calli (va_runV (As := [.int x]) (rest := []) ⟨hx, hb, hml, hown, hts⟩ (c_A_placeOf l dC dI q a cA l0.length f x H.size hn) (cwV 1 hts gX0_has_X0_placeOf rfl rfl rfl (by decide +kernel) ⟨Nat.le_of_ble_eq_true rfl, Nat.le_of_ble_eq_true rfl⟩) ⟨fun a U g mk q => by obtain ⟨q0, q1, qP, qK, qD⟩ := q; exact ⟨q0, q1, qP, va_K.moved (u := U) (U := U.calling g mk a) (Vm.Alike.refl U.vm) qK, qD⟩, va_recv hKc hPc (ci := 0) (q0 := 0) rfl rfl, fun U hU hW => ⟨rfl, by rw [hU], by rw [hU]; exact hPc, va_K.moved hW.alike hKc, hDc.weaken (fun _ _ _ _ => trivial)⟩⟩ rfl rfl hl.1 rfl (lv_room (Nat.le_of_ble_eq_true rfl)) dX0_has_2 ⟨Nat.le_of_ble_eq_true rfl, Nat.le_of_ble_eq_true rfl⟩) hS (fun q _ h => hFc q h) hFc (fun r u t H1 locs ht hvm hw hB hz1 hk1 hS => ?_)
  obtain ⟨n1, f1⟩ := u
  obtain ⟨hP1, hK1, hD1⟩ := hB
  rw [ht] at hP1
  try dsimp only at hw hP1 hD1
  obtain ⟨hu, hcase⟩ := hw
  cases hu
  obtain ⟨hP, hD⟩ := va_join (wr := []) (w1 := (cal q a cA l0.length f)) hP hD [0, 1] [] rfl rfl (by decide) (by decide) hk1 hFc hP1 hD1
  generalize H1 = H at hP hS ⊢
  replace hP : va_P (dC, dI) vwCl (cal q a cA l0.length f) H := hP
  replace hD : va_D A (cal q a cA l0.length f) := hD
  rcases hcase with ⟨e9, hno⟩ | ⟨p9, e9, hp9, hf9⟩
  · subst e9
    refine lv_if_lt (tgt := 12) hx hb dX0_has_5 (by decide) (fun c_5 => ?_) (fun c_5 => ?_)
    · skip
      refine lv_iconst (v := nI 0) hx hb dX0_has_12 (by decide) ?_
      exact W.zret (v := nI 0) (ty := .boolean) hx hb hr (by decide) (fun t ht hW => ⟨⟨nI 0, (l0.length, f), rfl, ⟨(if_neg (al_not_mem hf hno)).symm, rfl⟩, by rw [ht]; exact hP, va_K.moved hW.alike hK, hD⟩, hS.F ht⟩) hS.2.2 dX0_has_13
    · skip
      exact absurd (by decide) c_5
  · subst e9
    refine lv_if_lt (tgt := 12) hx hb dX0_has_5 (by decide) (fun c_5 => ?_) (fun c_5 => ?_)
    · skip
      replace c_5 : p9 < 0 := (nI_ltI (a := p9) (b := 0) (by omega) (by omega)).mp c_5
      exact absurd c_5 (by omega)
    · skip
      replace c_5 : ¬ (p9 < 0) := fun h9 => c_5 ((nI_ltI (a := p9) (b := 0) (by omega) (by omega)).mpr h9)
      refine lv_iconst (v := nI 1) hx hb dX0_has_8 (by decide) ?_
      refine lv_goto (tgt := 13) hx hb dX0_has_9 (by decide) ?_
      exact W.zret (v := nI 1) (ty := .boolean) hx hb hr (by decide) (fun t ht hW => ⟨⟨nI 1, (l0.length, f), rfl, ⟨(if_pos (al_mem hf hp9 hf9)).symm, rfl⟩, by rw [ht]; exact hP, va_K.moved hW.alike hK, hD⟩, hS.F ht⟩) hS.2.2 dX0_has_13
set_option maxHeartbeats 4000000 in
set_option maxRecDepth 100000 in
theorem c_A_fromNewest (l : Launch) (dC : Nat → ClassId) (dI : Nat → Nat → Nat) (q a : Nat) (cA : ClassId) (l0 : List Int32) (f : Nat → Int32) (i : Int32) (sz : Nat) (hn : l0.length ≤ 64) (hf : ar_is f l0.reverse) : Met l yX0_fromNewest wsX0_fromNewest ({ frames := 0, cells := 0, slots := 0, locals := 0 }) (va_Pc [.ref q, .int i] (fun U => U.heap.size = sz ∧ va_P (dC, dI) vwCl (cal q a cA l0.length f) U.heap ∧ va_K (dC, dI) vwCl (kal cA) U ∧ va_D (fun _ => True) (cal q a cA l0.length f))) (va_Qi (fun (r : Int32) (u : Nat × (Nat → Int32)) => r = al_at l0 i ∧ u = (l0.length, f)) (at_A dC dI (va_A (cal q a cA l0.length f) sz) q a cA) (va_A (cal q a cA l0.length f) sz)) 0 0 (va_A (cal q a cA l0.length f) sz) := by
  refine Met.ofW (cc := cX0_fromNewest) (maxL := 2) (ret := (some .int)) (by decide) rfl ?_
  intro p e s m args below meth c s₁ B hml hv
  obtain ⟨rfl, hsz, hP, hK, hD0⟩ := hv
  have hx := B.exec
  have hb := B.bytes
  have hr := B.returns
  have hts := atoms_spec (ws := wsX0_fromNewest) B.pre
  have hown : s.vm.findClass RX0 = some m.cls := findClass_of_methodNamed B.named
  have hlocks := B.notSynchronized
  have hwX0 : ∀ w ∈ u_ws RX0 TX0 2, w ∈ wsX0_fromNewest := by decide +kernel
  subst hsz
  have hD := hD0.self (sz := s.heap.size)
  generalize hAe : va_A (cal q a cA l0.length f) s.heap.size = A at hD ⊢
  have hA : ∀ q : Nat, s.heap.size ≤ q → A q := fun q h => by rw [← hAe]; exact Or.inr h
  have hS0 : ∀ H, s.heap = H → va_S A s.heap H [] := fun H h => by subst h; exact va_S.rf
  have hl := lv_entry ([.ref q, .int i]) (n := 2) (Nat.le_of_ble_eq_true rfl)
  rw [lg_entry_eq]
  generalize (lg_sl ([.ref q, .int i]) ++ List.replicate (2 - (lg_sl ([.ref q, .int i])).length) Slot.unset).toArray = ls at hl ⊢
  have hl : lv_has ls 2 [(0, .ref q), (1, .int i)] := hl
  generalize hHe : s.heap = H at hP ⊢
  have hS := hS0 H hHe
  refine lv_iload_n hx hb dX0_fromNewest_0 rfl (lv_at hl 1 rfl) ?_
  refine lv_if_lt (tgt := 28) hx hb dX0_fromNewest_1 (by decide) (fun c_1 => ?_) (fun c_1 => ?_)
  · skip
    refine lv_iconst (v := -1) hx hb dX0_fromNewest_28 (by decide) ?_
    exact W.iret (v := -1) hx hb hr (fun t ht hW => ⟨⟨-1, (l0.length, f), rfl, ⟨(if_pos (by first | exact Or.inl c_1 | exact Or.inr c_9)).symm, rfl⟩, by rw [ht]; exact hP, va_K.moved hW.alike hK, hD⟩, hS.F ht⟩) hS.2.2 dX0_fromNewest_29
  · skip
    refine lv_iload_n hx hb dX0_fromNewest_4 rfl (lv_at hl 1 rfl) ?_
    refine lv_aload_n hx hb dX0_fromNewest_5 rfl (lv_at hl 0 rfl) ?_
    refine va_get (D := (dC, dI)) (ci := 0) (v := .int (nI l0.length)) (C := RX0) (T := TX0) (N := 2) hx hb hts hwX0 hown hK hP 0 rfl rfl 1 (by decide) (hts (.fieldLink RX0 15 "ArcCache$AddressList" "count" "I") (by decide +kernel)) (fun _ h9 => h9) rfl dX0_fromNewest_6 ?_
    refine lv_icmp_ge (tgt := 28) hx hb dX0_fromNewest_9 (by decide) (fun c_9 => ?_) (fun c_9 => ?_)
    · skip
      refine lv_iconst (v := -1) hx hb dX0_fromNewest_28 (by decide) ?_
      exact W.iret (v := -1) hx hb hr (fun t ht hW => ⟨⟨-1, (l0.length, f), rfl, ⟨(if_pos (by first | exact Or.inl c_1 | exact Or.inr c_9)).symm, rfl⟩, by rw [ht]; exact hP, va_K.moved hW.alike hK, hD⟩, hS.F ht⟩) hS.2.2 dX0_fromNewest_29
    · skip
      obtain ⟨j, hj, ej⟩ := al_ix c_1 c_9 (by omega)
      subst ej
      refine lv_aload_n hx hb dX0_fromNewest_12 rfl (lv_at hl 0 rfl) ?_
      refine va_get (D := (dC, dI)) (ci := 0) (v := .ref a) (C := RX0) (T := TX0) (N := 2) hx hb hts hwX0 hown hK hP 0 rfl rfl 0 (by decide) (hts (.fieldLink RX0 9 "ArcCache$AddressList" "oldestFirst" "[I") (by decide +kernel)) (fun _ h9 => h9) rfl dX0_fromNewest_13 ?_
      refine lv_aload_n hx hb dX0_fromNewest_16 rfl (lv_at hl 0 rfl) ?_
      refine va_get (D := (dC, dI)) (ci := 0) (v := .int (nI l0.length)) (C := RX0) (T := TX0) (N := 2) hx hb hts hwX0 hown hK hP 0 rfl rfl 1 (by decide) (hts (.fieldLink RX0 15 "ArcCache$AddressList" "count" "I") (by decide +kernel)) (fun _ h9 => h9) rfl dX0_fromNewest_17 ?_
      refine lv_iconst (v := nI 1) hx hb dX0_fromNewest_20 (by decide) ?_
      refine lv_isub hx hb dX0_fromNewest_21 ?_
      refine lv_topi (fun x_1 e_x_1 => ?_)
      have e_x_1 : x_1 = nI (l0.length - 1) := by rw [e_x_1]; exact pk_sub (by omega)
      subst e_x_1
      refine lv_iload_n hx hb dX0_fromNewest_22 rfl (lv_at hl 1 rfl) ?_
      refine lv_isub hx hb dX0_fromNewest_23 ?_
      refine lv_topi (fun x_2 e_x_2 => ?_)
      have e_x_2 : x_2 = nI ((l0.length - 1) - j) := by rw [e_x_2]; exact pk_sub (by omega)
      subst e_x_2
      refine va_iald hx hb hK hP 1 0 rfl rfl (vp_in_nI (show (l0.length - 1) - j < 64 by omega) (by decide)) dX0_fromNewest_24 ?_
      refine lv_topi (fun x_4 e_x_4 => ?_)
      have e_x_4 : x_4 = f ((l0.length - 1) - j) := by rw [e_x_4]; rw [nI_clamp (by omega)]
      subst e_x_4
      refine lv_goto (tgt := 29) hx hb dX0_fromNewest_25 (by decide) ?_
      exact W.iret (v := f ((l0.length - 1) - j)) hx hb hr (fun t ht hW => ⟨⟨f ((l0.length - 1) - j), (l0.length, f), rfl, ⟨al_at_in hf hj (by omega), rfl⟩, by rw [ht]; exact hP, va_K.moved hW.alike hK, hD⟩, hS.F ht⟩) hS.2.2 dX0_fromNewest_29
set_option maxHeartbeats 4000000 in
set_option maxRecDepth 100000 in
theorem c_A_oldest (l : Launch) (dC : Nat → ClassId) (dI : Nat → Nat → Nat) (q a : Nat) (cA : ClassId) (l0 : List Int32) (f : Nat → Int32) (sz : Nat) (hn : l0.length ≤ 64) (hf : ar_is f l0.reverse) : Met l yX0_oldest wsX0_oldest ({ frames := 1, cells := 0, slots := 0, locals := 21 }) (va_Pc [.ref q] (fun U => U.heap.size = sz ∧ va_P (dC, dI) vwCl (cal q a cA l0.length f) U.heap ∧ va_K (dC, dI) vwCl (kal cA) U ∧ va_D (fun _ => True) (cal q a cA l0.length f))) (va_Qi (fun (r : Int32) (u : Nat × (Nat → Int32)) => r = ap_old l0 ∧ u = (l0.length, f)) (at_A dC dI (va_A (cal q a cA l0.length f) sz) q a cA) (va_A (cal q a cA l0.length f) sz)) 0 0 (va_A (cal q a cA l0.length f) sz) := by
  refine Met.ofW (cc := cX0_oldest) (maxL := 1) (ret := (some .int)) (by decide) rfl ?_
  intro p e s m args below meth c s₁ B hml hv
  obtain ⟨rfl, hsz, hP, hK, hD0⟩ := hv
  have hx := B.exec
  have hb := B.bytes
  have hr := B.returns
  have hts := atoms_spec (ws := wsX0_oldest) B.pre
  have hown : s.vm.findClass RX0 = some m.cls := findClass_of_methodNamed B.named
  have hlocks := B.notSynchronized
  have hwX0 : ∀ w ∈ u_ws RX0 TX0 2, w ∈ wsX0_oldest := by decide +kernel
  subst hsz
  have hD := hD0.self (sz := s.heap.size)
  generalize hAe : va_A (cal q a cA l0.length f) s.heap.size = A at hD ⊢
  have hA : ∀ q : Nat, s.heap.size ≤ q → A q := fun q h => by rw [← hAe]; exact Or.inr h
  have hS0 : ∀ H, s.heap = H → va_S A s.heap H [] := fun H h => by subst h; exact va_S.rf
  have hl := lv_entry ([.ref q]) (n := 1) (Nat.le_of_ble_eq_true rfl)
  rw [lg_entry_eq]
  generalize (lg_sl ([.ref q]) ++ List.replicate (1 - (lg_sl ([.ref q])).length) Slot.unset).toArray = ls at hl ⊢
  have hl : lv_has ls 1 [(0, .ref q)] := hl
  generalize hHe : s.heap = H at hP ⊢
  have hS := hS0 H hHe
  refine lv_aload_n hx hb dX0_oldest_0 rfl (lv_at hl 0 rfl) ?_
  refine lv_aload_n hx hb dX0_oldest_1 rfl (lv_at hl 0 rfl) ?_
  refine va_get (D := (dC, dI)) (ci := 0) (v := .int (nI l0.length)) (C := RX0) (T := TX0) (N := 2) hx hb hts hwX0 hown hK hP 0 rfl rfl 1 (by decide) (hts (.fieldLink RX0 15 "ArcCache$AddressList" "count" "I") (by decide +kernel)) (fun _ h9 => h9) rfl dX0_oldest_2 ?_
  refine lv_iconst (v := nI 1) hx hb dX0_oldest_5 (by decide) ?_
  refine lv_isub hx hb dX0_oldest_6 ?_
  have hPc := hP.sub (ws' := (cal q a cA l0.length f)) [0, 1] rfl
  have hDc := hD.sub (ws' := (cal q a cA l0.length f)) [0, 1] (by decide) rfl
  have hKc := hK.sub (tys' := (kal cA)) [0] rfl
  have hFc := va_free (wc := (cal q a cA l0.length f)) hD hS hA [0, 1] rfl
  refine va_calli (va_runV (As := [.int (nI l0.length - nI 1)]) (rest := []) ⟨hx, hb, hml, hown, hts⟩ (c_A_fromNewest l dC dI q a cA l0 f (nI l0.length - nI 1) H.size hn hf) (cwV 1 hts gX0_oldest_X0_fromNewest rfl rfl rfl (by decide +kernel) ⟨Nat.le_of_ble_eq_true rfl, Nat.le_of_ble_eq_true rfl⟩) ⟨fun a U g mk q => by obtain ⟨q0, q1, qP, qK, qD⟩ := q; exact ⟨q0, q1, qP, va_K.moved (u := U) (U := U.calling g mk a) (Vm.Alike.refl U.vm) qK, qD⟩, va_recv hKc hPc (ci := 0) (q0 := 0) rfl rfl, fun U hU hW => ⟨rfl, by rw [hU], by rw [hU]; exact hPc, va_K.moved hW.alike hKc, hDc.weaken (fun _ _ _ _ => trivial)⟩⟩ rfl rfl hl.1 rfl (lv_room (Nat.le_of_ble_eq_true rfl)) dX0_oldest_7 ⟨Nat.le_of_ble_eq_true rfl, Nat.le_of_ble_eq_true rfl⟩) hS (fun q _ h => hFc q h) hFc (fun r u t H1 locs ht hvm hw hB hz1 hk1 hS => ?_)
  obtain ⟨n1, f1⟩ := u
  obtain ⟨hP1, hK1, hD1⟩ := hB
  rw [ht] at hP1
  try dsimp only at hw hP1 hD1
  obtain ⟨hr9, hu⟩ := hw
  cases hu
  obtain ⟨hP, hD⟩ := va_join (wr := []) (w1 := (cal q a cA l0.length f)) hP hD [0, 1] [] rfl rfl (by decide) (by decide) hk1 hFc hP1 hD1
  generalize H1 = H at hP hS ⊢
  replace hP : va_P (dC, dI) vwCl (cal q a cA l0.length f) H := hP
  replace hD : va_D A (cal q a cA l0.length f) := hD
  exact W.iret (v := r) hx hb hr (fun t ht hW => ⟨⟨r, (l0.length, f), rfl, ⟨hr9.trans (al_at_old hn), rfl⟩, by rw [ht]; exact hP, va_K.moved hW.alike hK, hD⟩, hS.F ht⟩) hS.2.2 dX0_oldest_10
set_option maxHeartbeats 4000000 in
set_option maxRecDepth 100000 in
theorem c_X_isAddress (l : Launch) (dC : Nat → ClassId) (dI : Nat → Nat → Nat) (x : Int32) (sz : Nat)  : Met l yX1_isAddress wsX1_isAddress ({ frames := 0, cells := 0, slots := 0, locals := 0 }) (va_Pc [.int x] (fun U => U.heap.size = sz)) (va_Qi (fun (r : Int32) (_ : Unit) => r = (if x < 0 ∨ nI 64 ≤ x then nI 0 else nI 1)) (fun _ _ => True) (va_A [] sz)) 0 0 (va_A [] sz) := by
  refine Met.ofW (cc := cX1_isAddress) (maxL := 1) (ret := (some .boolean)) (by decide) rfl ?_
  intro p e s m args below meth c s₁ B hml hv
  obtain ⟨rfl, hsz⟩ := hv
  have hx := B.exec
  have hb := B.bytes
  have hr := B.returns
  have hts := atoms_spec (ws := wsX1_isAddress) B.pre
  have hown : s.vm.findClass RX1 = some m.cls := findClass_of_methodNamed B.named
  have hlocks := B.notSynchronized
  subst hsz
  have hP : va_P (dC, dI) vwCl [] s.heap := fun k q h => by simp at h
  have hD : va_D (va_A [] s.heap.size) [] := ⟨fun i j p q h => by simp at h, fun k q h => by simp at h⟩
  generalize hAe : va_A [] s.heap.size = A at hD ⊢
  have hA : ∀ q : Nat, s.heap.size ≤ q → A q := fun q h => by rw [← hAe]; exact Or.inr h
  have hS0 : ∀ H, s.heap = H → va_S A s.heap H [] := fun H h => by subst h; exact va_S.rf
  have hl := lv_entry ([.int x]) (n := 1) (Nat.le_of_ble_eq_true rfl)
  rw [lg_entry_eq]
  generalize (lg_sl ([.int x]) ++ List.replicate (1 - (lg_sl ([.int x])).length) Slot.unset).toArray = ls at hl ⊢
  have hl : lv_has ls 1 [(0, .int x)] := hl
  generalize hHe : s.heap = H at hP ⊢
  have hS := hS0 H hHe
  refine lv_iload_n hx hb dX1_isAddress_0 rfl (lv_at hl 0 rfl) ?_
  refine lv_if_lt (tgt := 14) hx hb dX1_isAddress_1 (by decide) (fun c_1 => ?_) (fun c_1 => ?_)
  · skip
    refine lv_iconst (v := nI 0) hx hb dX1_isAddress_14 (by decide) ?_
    exact W.zret (v := nI 0) (ty := .boolean) hx hb hr (by decide) (fun t ht hW => ⟨⟨nI 0, (), rfl, (if_pos (by first | exact Or.inl c_1 | exact Or.inr c_7)).symm, trivial⟩, hS.F ht⟩) hS.2.2 dX1_isAddress_15
  · skip
    refine lv_iload_n hx hb dX1_isAddress_4 rfl (lv_at hl 0 rfl) ?_
    refine lv_bipush (v := nI 64) hx hb dX1_isAddress_5 (by decide) ?_
    refine lv_icmp_ge (tgt := 14) hx hb dX1_isAddress_7 (by decide) (fun c_7 => ?_) (fun c_7 => ?_)
    · skip
      refine lv_iconst (v := nI 0) hx hb dX1_isAddress_14 (by decide) ?_
      exact W.zret (v := nI 0) (ty := .boolean) hx hb hr (by decide) (fun t ht hW => ⟨⟨nI 0, (), rfl, (if_pos (by first | exact Or.inl c_1 | exact Or.inr c_7)).symm, trivial⟩, hS.F ht⟩) hS.2.2 dX1_isAddress_15
    · skip
      refine lv_iconst (v := nI 1) hx hb dX1_isAddress_10 (by decide) ?_
      refine lv_goto (tgt := 15) hx hb dX1_isAddress_11 (by decide) ?_
      exact W.zret (v := nI 1) (ty := .boolean) hx hb hr (by decide) (fun t ht hW => ⟨⟨nI 1, (), rfl, (if_neg (fun h9 => h9.elim c_1 c_7)).symm, trivial⟩, hS.F ht⟩) hS.2.2 dX1_isAddress_15
set_option maxHeartbeats 4000000 in
set_option maxRecDepth 100000 in
theorem c_A_addNewest (l : Launch) (dC : Nat → ClassId) (dI : Nat → Nat → Nat) (q a : Nat) (cA : ClassId) (l0 : List Int32) (f : Nat → Int32) (x : Int32) (sz : Nat) (hn : l0.length < 64) (hf : ar_is f l0.reverse) : Met l yX0_addNewest wsX0_addNewest ({ frames := 1, cells := 0, slots := 0, locals := 20 }) (va_Pc [.ref q, .int x] (fun U => U.heap.size = sz ∧ va_P (dC, dI) vwCl (cal q a cA l0.length f) U.heap ∧ va_K (dC, dI) vwCl (kal cA) U ∧ va_D (fun _ => True) (cal q a cA l0.length f) ∧ va_Nw (.methodLinkNest RX0 23 yX1_isAddress "ArcCache") U)) (va_Qv (fun (u : Nat × (Nat → Int32)) => u.1 = (al_add l0 x).length ∧ ar_is u.2 (al_add l0 x).reverse) (at_A dC dI (va_A (cal q a cA l0.length f) sz) q a cA) (va_A (cal q a cA l0.length f) sz)) 0 0 (va_A (cal q a cA l0.length f) sz) := by
  refine Met.ofW (cc := cX0_addNewest) (maxL := 2) (ret := none) (by decide) rfl ?_
  intro p e s m args below meth c s₁ B hml hv
  obtain ⟨rfl, hsz, hP, hK, hD0, hN⟩ := hv
  have hx := B.exec
  have hb := B.bytes
  have hr := B.returns
  have hts := atoms_spec (ws := wsX0_addNewest) B.pre
  have hown : s.vm.findClass RX0 = some m.cls := findClass_of_methodNamed B.named
  have hlocks := B.notSynchronized
  have hwX0 : ∀ w ∈ u_ws RX0 TX0 2, w ∈ wsX0_addNewest := by decide +kernel
  subst hsz
  have hD := hD0.self (sz := s.heap.size)
  generalize hAe : va_A (cal q a cA l0.length f) s.heap.size = A at hD ⊢
  have hA : ∀ q : Nat, s.heap.size ≤ q → A q := fun q h => by rw [← hAe]; exact Or.inr h
  have hS0 : ∀ H, s.heap = H → va_S A s.heap H [] := fun H h => by subst h; exact va_S.rf
  have hl := lv_entry ([.ref q, .int x]) (n := 2) (Nat.le_of_ble_eq_true rfl)
  rw [lg_entry_eq]
  generalize (lg_sl ([.ref q, .int x]) ++ List.replicate (2 - (lg_sl ([.ref q, .int x])).length) Slot.unset).toArray = ls at hl ⊢
  have hl : lv_has ls 2 [(0, .ref q), (1, .int x)] := hl
  generalize hHe : s.heap = H at hP ⊢
  have hS := hS0 H hHe
  refine lv_iload_n hx hb dX0_addNewest_0 rfl (lv_at hl 1 rfl) ?_
  have hPc := hP.sub (ws' := []) [] rfl
  have hDc := hD.sub (ws' := []) [] (by decide) rfl
  have hFc := va_free (wc := []) hD hS hA [] rfl
  refine va_calli (va_runSN (As := [.int x]) (rest := []) ⟨hx, hb, hml, hown, hts⟩ (c_X_isAddress l dC dI x H.size) ⟨va_cnB 1 hts gX0_addNewest_X1_isAddress_n23 rfl rfl rfl hN (hts (.initialized RX1) (by decide +kernel)) (by decide +kernel) ⟨Nat.le_of_ble_eq_true rfl, Nat.le_of_ble_eq_true rfl⟩, hts (.static yX1_isAddress) (by decide +kernel), trivial⟩ ⟨fun a U g mk q => by obtain ⟨q0, q1⟩ := q; exact ⟨q0, q1⟩, fun U hU hW => ⟨rfl, by show U.heap.size = _; rw [hU]⟩⟩ rfl rfl hl.1 rfl (lv_room (Nat.le_of_ble_eq_true rfl)) dX0_addNewest_1 ⟨Nat.le_of_ble_eq_true rfl, Nat.le_of_ble_eq_true rfl⟩) hS (fun q _ h => hFc q h) hFc (fun r u t H1 locs ht hvm hw hB hz1 hk1 hS => ?_)
  obtain ⟨hP, hD⟩ := va_join (wr := (cal q a cA l0.length f)) (w1 := []) hP hD [] [0, 1] rfl rfl (by decide) (by decide) hk1 hFc (fun k q h => by simp at h) ⟨fun i j p q h => by simp at h, fun k q h => by simp at h⟩
  generalize H1 = H at hP hS ⊢
  replace hP : va_P (dC, dI) vwCl (cal q a cA l0.length f) H := hP
  replace hD : va_D A (cal q a cA l0.length f) := hD
  by_cases hyes9 : x < 0 ∨ nI 64 ≤ x
  · rw [if_pos hyes9] at hw
    subst hw
    refine lv_if_eq (tgt := 36) hx hb dX0_addNewest_4 (by decide) (fun c_4 => ?_) (fun c_4 => ?_)
    · skip
      replace c_4 : 0 = 0 := (nI_eq (a := 0) (b := 0) (by omega) (by omega)).mp c_4
      exact W.vret hx hb hr (fun t ht hW => ⟨⟨(l0.length, f), rfl, ⟨by unfold al_add; rw [if_pos hyes9], by unfold al_add; rw [if_pos hyes9]; exact hf⟩, by rw [ht]; exact hP, va_K.moved hW.alike hK, hD⟩, hS.F ht⟩) hS.2.2 dX0_addNewest_36
    · skip
      replace c_4 : ¬ (0 = 0) := fun h9 => c_4 ((nI_eq (a := 0) (b := 0) (by omega) (by omega)).mpr h9)
      exact absurd c_4 (by omega)
  · have hno9 := hyes9
    rw [if_neg hno9] at hw
    subst hw
    refine lv_if_eq (tgt := 36) hx hb dX0_addNewest_4 (by decide) (fun c_4 => ?_) (fun c_4 => ?_)
    · skip
      replace c_4 : 1 = 0 := (nI_eq (a := 1) (b := 0) (by omega) (by omega)).mp c_4
      exact absurd c_4 (by omega)
    · skip
      replace c_4 : ¬ (1 = 0) := fun h9 => c_4 ((nI_eq (a := 1) (b := 0) (by omega) (by omega)).mpr h9)
      refine lv_aload_n hx hb dX0_addNewest_7 rfl (lv_at hl 0 rfl) ?_
      refine va_get (D := (dC, dI)) (ci := 0) (v := .int (nI l0.length)) (C := RX0) (T := TX0) (N := 2) hx hb hts hwX0 hown hK hP 0 rfl rfl 1 (by decide) (hts (.fieldLink RX0 15 "ArcCache$AddressList" "count" "I") (by decide +kernel)) (fun _ h9 => h9) rfl dX0_addNewest_8 ?_
      refine lv_bipush (v := nI 64) hx hb dX0_addNewest_11 (by decide) ?_
      refine lv_icmp_ge (tgt := 36) hx hb dX0_addNewest_13 (by decide) (fun c_13 => ?_) (fun c_13 => ?_)
      · skip
        replace c_13 : 64 ≤ l0.length := (nI_leI (a := 64) (b := l0.length) (by omega) (by omega)).mp c_13
        exact absurd c_13 (by omega)
      · skip
        replace c_13 : ¬ (64 ≤ l0.length) := fun h9 => c_13 ((nI_leI (a := 64) (b := l0.length) (by omega) (by omega)).mpr h9)
        refine lv_aload_n hx hb dX0_addNewest_16 rfl (lv_at hl 0 rfl) ?_
        refine va_get (D := (dC, dI)) (ci := 0) (v := .ref a) (C := RX0) (T := TX0) (N := 2) hx hb hts hwX0 hown hK hP 0 rfl rfl 0 (by decide) (hts (.fieldLink RX0 9 "ArcCache$AddressList" "oldestFirst" "[I") (by decide +kernel)) (fun _ h9 => h9) rfl dX0_addNewest_17 ?_
        refine lv_aload_n hx hb dX0_addNewest_20 rfl (lv_at hl 0 rfl) ?_
        refine va_get (D := (dC, dI)) (ci := 0) (v := .int (nI l0.length)) (C := RX0) (T := TX0) (N := 2) hx hb hts hwX0 hown hK hP 0 rfl rfl 1 (by decide) (hts (.fieldLink RX0 15 "ArcCache$AddressList" "count" "I") (by decide +kernel)) (fun _ h9 => h9) rfl dX0_addNewest_21 ?_
        refine lv_iload_n hx hb dX0_addNewest_24 rfl (lv_at hl 1 rfl) ?_
        refine va_iast hx hb hK hP hD hS 1 0 rfl rfl (vp_in_nI (show l0.length < 64 by omega) (by decide)) dX0_addNewest_25 (fun H locs hP hD hS => ?_)
        rw [nI_clamp (show l0.length < 2 ^ 31 by omega)] at hP hD
        replace hP : va_P (dC, dI) vwCl (cal q a cA l0.length (upd f l0.length x)) H := hP
        replace hD : va_D A (cal q a cA l0.length (upd f l0.length x)) := hD
        refine lv_aload_n hx hb dX0_addNewest_26 rfl (lv_at hl 0 rfl) ?_
        refine lv_dup hx hb dX0_addNewest_27 rfl ?_
        refine va_get (D := (dC, dI)) (ci := 0) (v := .int (nI l0.length)) (C := RX0) (T := TX0) (N := 2) hx hb hts hwX0 hown hK hP 0 rfl rfl 1 (by decide) (hts (.fieldLink RX0 15 "ArcCache$AddressList" "count" "I") (by decide +kernel)) (fun _ h9 => h9) rfl dX0_addNewest_28 ?_
        refine lv_iconst (v := nI 1) hx hb dX0_addNewest_31 (by decide) ?_
        refine lv_iadd hx hb dX0_addNewest_32 ?_
        refine lv_topi (fun x_1 e_x_1 => ?_)
        have e_x_1 : x_1 = nI (l0.length + 1) := by rw [e_x_1]; exact nI_add _ _
        subst e_x_1
        refine va_put (D := (dC, dI)) (ci := 0) (v := .int (nI (l0.length + 1))) (ty := .int) (C := RX0) (T := TX0) (N := 2) hx hb hts hwX0 tyX0 tyX0_ok nmX0 hown hK hP hD hS 0 rfl rfl 1 (by decide) (hts (.fieldLink RX0 15 "ArcCache$AddressList" "count" "I") (by decide +kernel)) (fun _ h9 => h9) rfl (by decide +kernel) rfl rfl (Nat.le_of_ble_eq_true rfl) dX0_addNewest_33 (fun H locs hP hD hS => ?_)
        replace hP : va_P (dC, dI) vwCl (cal q a cA (l0.length + 1) (upd f l0.length x)) H := hP
        replace hD : va_D A (cal q a cA (l0.length + 1) (upd f l0.length x)) := hD
        exact W.vret hx hb hr (fun t ht hW => ⟨⟨(l0.length + 1, upd f l0.length x), rfl, ⟨by unfold al_add; rw [if_neg hno9]; rfl, by unfold al_add; rw [if_neg hno9]; exact al_push hf⟩, by rw [ht]; exact hP, va_K.moved hW.alike hK, hD⟩, hS.F ht⟩) hS.2.2 dX0_addNewest_36
set_option maxHeartbeats 4000000 in
set_option maxRecDepth 100000 in
theorem c_A_remove (l : Launch) (dC : Nat → ClassId) (dI : Nat → Nat → Nat) (q a : Nat) (cA : ClassId) (l0 : List Int32) (f : Nat → Int32) (x : Int32) (sz : Nat) (hn : l0.length ≤ 64) (hf : ar_is f l0.reverse) (hnd : l0.Nodup) : Met l yX0_remove wsX0_remove ({ frames := 1, cells := 0, slots := 0, locals := 60 }) (va_Pc [.ref q, .int x] (fun U => U.heap.size = sz ∧ va_P (dC, dI) vwCl (cal q a cA l0.length f) U.heap ∧ va_K (dC, dI) vwCl (kal cA) U ∧ va_D (fun _ => True) (cal q a cA l0.length f))) (va_Qv (fun (u : Nat × (Nat → Int32)) => u.1 = (ap_rm x l0).length ∧ ar_is u.2 (ap_rm x l0).reverse) (at_A dC dI (va_A (cal q a cA l0.length f) sz) q a cA) (va_A (cal q a cA l0.length f) sz)) 0 0 (va_A (cal q a cA l0.length f) sz) := by
  refine Met.ofW (cc := cX0_remove) (maxL := 3) (ret := none) (by decide) rfl ?_
  intro p e s m args below meth c s₁ B hml hv
  obtain ⟨rfl, hsz, hP, hK, hD0⟩ := hv
  have hx := B.exec
  have hb := B.bytes
  have hr := B.returns
  have hts := atoms_spec (ws := wsX0_remove) B.pre
  have hown : s.vm.findClass RX0 = some m.cls := findClass_of_methodNamed B.named
  have hlocks := B.notSynchronized
  have hwX0 : ∀ w ∈ u_ws RX0 TX0 2, w ∈ wsX0_remove := by decide +kernel
  subst hsz
  have hD := hD0.self (sz := s.heap.size)
  generalize hAe : va_A (cal q a cA l0.length f) s.heap.size = A at hD ⊢
  have hA : ∀ q : Nat, s.heap.size ≤ q → A q := fun q h => by rw [← hAe]; exact Or.inr h
  have hS0 : ∀ H, s.heap = H → va_S A s.heap H [] := fun H h => by subst h; exact va_S.rf
  have hl := lv_entry ([.ref q, .int x]) (n := 3) (Nat.le_of_ble_eq_true rfl)
  rw [lg_entry_eq]
  generalize (lg_sl ([.ref q, .int x]) ++ List.replicate (3 - (lg_sl ([.ref q, .int x])).length) Slot.unset).toArray = ls at hl ⊢
  have hl : lv_has ls 3 [(0, .ref q), (1, .int x)] := hl
  generalize hHe : s.heap = H at hP ⊢
  have hS := hS0 H hHe
  refine lv_aload_n hx hb dX0_remove_0 rfl (lv_at hl 0 rfl) ?_
  refine lv_iload_n hx hb dX0_remove_1 rfl (lv_at hl 1 rfl) ?_
  have hPc := hP.sub (ws' := (cal q a cA l0.length f)) [0, 1] rfl
  have hDc := hD.sub (ws' := (cal q a cA l0.length f)) [0, 1] (by decide) rfl
  have hKc := hK.sub (tys' := (kal cA)) [0] rfl
  have hFc := va_free (wc := (cal q a cA l0.length f)) hD hS hA [0, 1] rfl
  refine va_calli (va_runV (As := [.int x]) (rest := []) ⟨hx, hb, hml, hown, hts⟩ (c_A_placeOf l dC dI q a cA l0.length f x H.size hn) (cwV 1 hts gX0_remove_X0_placeOf rfl rfl rfl (by decide +kernel) ⟨Nat.le_of_ble_eq_true rfl, Nat.le_of_ble_eq_true rfl⟩) ⟨fun a U g mk q => by obtain ⟨q0, q1, qP, qK, qD⟩ := q; exact ⟨q0, q1, qP, va_K.moved (u := U) (U := U.calling g mk a) (Vm.Alike.refl U.vm) qK, qD⟩, va_recv hKc hPc (ci := 0) (q0 := 0) rfl rfl, fun U hU hW => ⟨rfl, by rw [hU], by rw [hU]; exact hPc, va_K.moved hW.alike hKc, hDc.weaken (fun _ _ _ _ => trivial)⟩⟩ rfl rfl hl.1 rfl (lv_room (Nat.le_of_ble_eq_true rfl)) dX0_remove_2 ⟨Nat.le_of_ble_eq_true rfl, Nat.le_of_ble_eq_true rfl⟩) hS (fun q _ h => hFc q h) hFc (fun r u t H1 locs ht hvm hw hB hz1 hk1 hS => ?_)
  obtain ⟨n1, f1⟩ := u
  obtain ⟨hP1, hK1, hD1⟩ := hB
  rw [ht] at hP1
  try dsimp only at hw hP1 hD1
  obtain ⟨hu, hcase⟩ := hw
  cases hu
  obtain ⟨hP, hD⟩ := va_join (wr := []) (w1 := (cal q a cA l0.length f)) hP hD [0, 1] [] rfl rfl (by decide) (by decide) hk1 hFc hP1 hD1
  generalize H1 = H at hP hS ⊢
  replace hP : va_P (dC, dI) vwCl (cal q a cA l0.length f) H := hP
  replace hD : va_D A (cal q a cA l0.length f) := hD
  rcases hcase with ⟨e9, hno⟩ | ⟨p9, e9, hp9, hf9⟩
  · subst e9
    refine lv_istore_n (lv' := [(2, .int (-1)), (0, .ref q), (1, .int x)]) hx hb dX0_remove_5 rfl hl (by decide) rfl (fun ls hl => ?_)
    refine lv_iload_n hx hb dX0_remove_6 rfl (lv_at hl 0 rfl) ?_
    refine lv_if_lt (tgt := 41) hx hb dX0_remove_7 (by decide) (fun c_7 => ?_) (fun c_7 => ?_)
    · skip
      exact W.vret hx hb hr (fun t ht hW => ⟨⟨(l0.length, f), rfl, ⟨by rw [ap_rm_out (al_not_mem hf hno)], by rw [ap_rm_out (al_not_mem hf hno)]; exact hf⟩, by rw [ht]; exact hP, va_K.moved hW.alike hK, hD⟩, hS.F ht⟩) hS.2.2 dX0_remove_41
    · skip
      exact absurd (by decide) c_7
  · subst e9
    refine lv_istore_n (lv' := [(2, .int (nI p9)), (0, .ref q), (1, .int x)]) hx hb dX0_remove_5 rfl hl (by decide) rfl (fun ls hl => ?_)
    refine lv_iload_n hx hb dX0_remove_6 rfl (lv_at hl 0 rfl) ?_
    refine lv_if_lt (tgt := 41) hx hb dX0_remove_7 (by decide) (fun c_7 => ?_) (fun c_7 => ?_)
    · skip
      replace c_7 : p9 < 0 := (nI_ltI (a := p9) (b := 0) (by omega) (by omega)).mp c_7
      exact absurd c_7 (by omega)
    · skip
      replace c_7 : ¬ (p9 < 0) := fun h9 => c_7 ((nI_ltI (a := p9) (b := 0) (by omega) (by omega)).mpr h9)
      refine lv_aload_n hx hb dX0_remove_10 rfl (lv_at hl 1 rfl) ?_
      refine lv_dup hx hb dX0_remove_11 rfl ?_
      refine va_get (D := (dC, dI)) (ci := 0) (v := .int (nI l0.length)) (C := RX0) (T := TX0) (N := 2) hx hb hts hwX0 hown hK hP 0 rfl rfl 1 (by decide) (hts (.fieldLink RX0 15 "ArcCache$AddressList" "count" "I") (by decide +kernel)) (fun _ h9 => h9) rfl dX0_remove_12 ?_
      refine lv_iconst (v := nI 1) hx hb dX0_remove_15 (by decide) ?_
      refine lv_isub hx hb dX0_remove_16 ?_
      refine lv_topi (fun x_1 e_x_1 => ?_)
      have e_x_1 : x_1 = nI (l0.length - 1) := by rw [e_x_1]; exact pk_sub (by omega)
      subst e_x_1
      refine va_put (D := (dC, dI)) (ci := 0) (v := .int (nI (l0.length - 1))) (ty := .int) (C := RX0) (T := TX0) (N := 2) hx hb hts hwX0 tyX0 tyX0_ok nmX0 hown hK hP hD hS 0 rfl rfl 1 (by decide) (hts (.fieldLink RX0 15 "ArcCache$AddressList" "count" "I") (by decide +kernel)) (fun _ h9 => h9) rfl (by decide +kernel) rfl rfl (Nat.le_of_ble_eq_true rfl) dX0_remove_17 (fun H locs hP hD hS => ?_)
      replace hP : va_P (dC, dI) vwCl (cal q a cA (l0.length - 1) f) H := hP
      replace hD : va_D A (cal q a cA (l0.length - 1) f) := hD
      refine lv_aload_n hx hb dX0_remove_20 rfl (lv_at hl 1 rfl) ?_
      refine va_get (D := (dC, dI)) (ci := 0) (v := .ref a) (C := RX0) (T := TX0) (N := 2) hx hb hts hwX0 hown hK hP 0 rfl rfl 0 (by decide) (hts (.fieldLink RX0 9 "ArcCache$AddressList" "oldestFirst" "[I") (by decide +kernel)) (fun _ h9 => h9) rfl dX0_remove_21 ?_
      refine lv_iload_n hx hb dX0_remove_24 rfl (lv_at hl 0 rfl) ?_
      refine lv_iconst (v := nI 1) hx hb dX0_remove_25 (by decide) ?_
      refine lv_iadd hx hb dX0_remove_26 ?_
      refine lv_topi (fun x_2 e_x_2 => ?_)
      have e_x_2 : x_2 = nI (p9 + 1) := by rw [e_x_2]; exact nI_add _ _
      subst e_x_2
      refine lv_aload_n hx hb dX0_remove_27 rfl (lv_at hl 1 rfl) ?_
      refine va_get (D := (dC, dI)) (ci := 0) (v := .ref a) (C := RX0) (T := TX0) (N := 2) hx hb hts hwX0 hown hK hP 0 rfl rfl 0 (by decide) (hts (.fieldLink RX0 9 "ArcCache$AddressList" "oldestFirst" "[I") (by decide +kernel)) (fun _ h9 => h9) rfl dX0_remove_28 ?_
      refine lv_iload_n hx hb dX0_remove_31 rfl (lv_at hl 0 rfl) ?_
      refine lv_aload_n hx hb dX0_remove_32 rfl (lv_at hl 1 rfl) ?_
      refine va_get (D := (dC, dI)) (ci := 0) (v := .int (nI (l0.length - 1))) (C := RX0) (T := TX0) (N := 2) hx hb hts hwX0 hown hK hP 0 rfl rfl 1 (by decide) (hts (.fieldLink RX0 15 "ArcCache$AddressList" "count" "I") (by decide +kernel)) (fun _ h9 => h9) rfl dX0_remove_33 ?_
      refine lv_iload_n hx hb dX0_remove_36 rfl (lv_at hl 0 rfl) ?_
      refine lv_isub hx hb dX0_remove_37 ?_
      refine lv_topi (fun x_3 e_x_3 => ?_)
      have e_x_3 : x_3 = nI ((l0.length - 1) - p9) := by rw [e_x_3]; exact pk_sub (by omega)
      subst e_x_3
      refine va_copyi hx hb (hml.trans hl.1.symm) hown (hts (.methodLink RX0 38 arraycopyName) (by decide +kernel)) (hts (.native arraycopyName) (by decide +kernel)) (hts (.static arraycopyName) (by decide +kernel)) (hts (.initialized "java/lang/System") (by decide +kernel)) hK hP hD hS 1 1 0 0 rfl rfl rfl rfl rfl (nI_pos (by omega)) (nI_pos (by omega)) (nI_pos (by omega)) (by rw [nI_clamp (by omega), nI_clamp (by omega)]; omega) (by rw [nI_clamp (by omega), nI_clamp (by omega)]; omega) (fun _ _ => rfl) (Nat.le_of_ble_eq_true rfl) (by decide) dX0_remove_38 (fun H locs hP hD hS => ?_)
      rw [nI_clamp (show p9 + 1 < 2 ^ 31 by omega), nI_clamp (show p9 < 2 ^ 31 by omega), nI_clamp (show l0.length - 1 - p9 < 2 ^ 31 by omega)] at hP hD
      replace hP : va_P (dC, dI) vwCl (cal q a cA (l0.length - 1) (va_cpy f f (p9 + 1) p9 (l0.length - 1 - p9))) H := hP
      replace hD : va_D A (cal q a cA (l0.length - 1) (va_cpy f f (p9 + 1) p9 (l0.length - 1 - p9))) := hD
      have hrm9 := al_rm_del (f' := va_cpy f f (p9 + 1) p9 (l0.length - 1 - p9)) hnd hf hp9 hf9 (fun j hj => pk_cpy_out (Or.inl hj)) (fun j h1 h2 => by rw [pk_cpy_in h1 (by omega)]; congr 1; omega)
      replace hrm9 := And.intro hrm9.1.symm hrm9.2
      exact W.vret hx hb hr (fun t ht hW => ⟨⟨(l0.length - 1, va_cpy f f (p9 + 1) p9 (l0.length - 1 - p9)), rfl, hrm9, by rw [ht]; exact hP, va_K.moved hW.alike hK, hD⟩, hS.F ht⟩) hS.2.2 dX0_remove_41
set_option maxHeartbeats 4000000 in
set_option maxRecDepth 100000 in
theorem c_A_dropOldest (l : Launch) (dC : Nat → ClassId) (dI : Nat → Nat → Nat) (q a : Nat) (cA : ClassId) (l0 : List Int32) (f : Nat → Int32) (sz : Nat) (hn : l0.length ≤ 64) (hf : ar_is f l0.reverse) (hnd : l0.Nodup) : Met l yX0_dropOldest wsX0_dropOldest ({ frames := 2, cells := 0, slots := 0, locals := 82 }) (va_Pc [.ref q] (fun U => U.heap.size = sz ∧ va_P (dC, dI) vwCl (cal q a cA l0.length f) U.heap ∧ va_K (dC, dI) vwCl (kal cA) U ∧ va_D (fun _ => True) (cal q a cA l0.length f))) (va_Qv (fun (u : Nat × (Nat → Int32)) => u.1 = (ap_rm (ap_old l0) l0).length ∧ ar_is u.2 (ap_rm (ap_old l0) l0).reverse) (at_A dC dI (va_A (cal q a cA l0.length f) sz) q a cA) (va_A (cal q a cA l0.length f) sz)) 0 0 (va_A (cal q a cA l0.length f) sz) := by
  refine Met.ofW (cc := cX0_dropOldest) (maxL := 1) (ret := none) (by decide) rfl ?_
  intro p e s m args below meth c s₁ B hml hv
  obtain ⟨rfl, hsz, hP, hK, hD0⟩ := hv
  have hx := B.exec
  have hb := B.bytes
  have hr := B.returns
  have hts := atoms_spec (ws := wsX0_dropOldest) B.pre
  have hown : s.vm.findClass RX0 = some m.cls := findClass_of_methodNamed B.named
  have hlocks := B.notSynchronized
  have hwX0 : ∀ w ∈ u_ws RX0 TX0 2, w ∈ wsX0_dropOldest := by decide +kernel
  subst hsz
  have hD := hD0.self (sz := s.heap.size)
  generalize hAe : va_A (cal q a cA l0.length f) s.heap.size = A at hD ⊢
  have hA : ∀ q : Nat, s.heap.size ≤ q → A q := fun q h => by rw [← hAe]; exact Or.inr h
  have hS0 : ∀ H, s.heap = H → va_S A s.heap H [] := fun H h => by subst h; exact va_S.rf
  have hl := lv_entry ([.ref q]) (n := 1) (Nat.le_of_ble_eq_true rfl)
  rw [lg_entry_eq]
  generalize (lg_sl ([.ref q]) ++ List.replicate (1 - (lg_sl ([.ref q])).length) Slot.unset).toArray = ls at hl ⊢
  have hl : lv_has ls 1 [(0, .ref q)] := hl
  generalize hHe : s.heap = H at hP ⊢
  have hS := hS0 H hHe
  refine lv_aload_n hx hb dX0_dropOldest_0 rfl (lv_at hl 0 rfl) ?_
  refine lv_aload_n hx hb dX0_dropOldest_1 rfl (lv_at hl 0 rfl) ?_
  have hPc := hP.sub (ws' := (cal q a cA l0.length f)) [0, 1] rfl
  have hDc := hD.sub (ws' := (cal q a cA l0.length f)) [0, 1] (by decide) rfl
  have hKc := hK.sub (tys' := (kal cA)) [0] rfl
  have hFc := va_free (wc := (cal q a cA l0.length f)) hD hS hA [0, 1] rfl
  refine va_calli (va_runV (As := []) (rest := [.ref q]) ⟨hx, hb, hml, hown, hts⟩ (c_A_oldest l dC dI q a cA l0 f H.size hn hf) (cwV 0 hts gX0_dropOldest_X0_oldest rfl rfl rfl (by decide +kernel) ⟨Nat.le_of_ble_eq_true rfl, Nat.le_of_ble_eq_true rfl⟩) ⟨fun a U g mk q => by obtain ⟨q0, q1, qP, qK, qD⟩ := q; exact ⟨q0, q1, qP, va_K.moved (u := U) (U := U.calling g mk a) (Vm.Alike.refl U.vm) qK, qD⟩, va_recv hKc hPc (ci := 0) (q0 := 0) rfl rfl, fun U hU hW => ⟨rfl, by rw [hU], by rw [hU]; exact hPc, va_K.moved hW.alike hKc, hDc.weaken (fun _ _ _ _ => trivial)⟩⟩ rfl rfl hl.1 rfl (lv_room (Nat.le_of_ble_eq_true rfl)) dX0_dropOldest_2 ⟨Nat.le_of_ble_eq_true rfl, Nat.le_of_ble_eq_true rfl⟩) hS (fun q _ h => hFc q h) hFc (fun r u t H1 locs ht hvm hw hB hz1 hk1 hS => ?_)
  obtain ⟨n1, f1⟩ := u
  obtain ⟨hP1, hK1, hD1⟩ := hB
  rw [ht] at hP1
  try dsimp only at hw hP1 hD1
  obtain ⟨hr9, hu⟩ := hw
  cases hu
  obtain ⟨hP, hD⟩ := va_join (wr := []) (w1 := (cal q a cA l0.length f)) hP hD [0, 1] [] rfl rfl (by decide) (by decide) hk1 hFc hP1 hD1
  generalize H1 = H at hP hS ⊢
  replace hP : va_P (dC, dI) vwCl (cal q a cA l0.length f) H := hP
  replace hD : va_D A (cal q a cA l0.length f) := hD
  subst hr9
  have hPc := hP.sub (ws' := (cal q a cA l0.length f)) [0, 1] rfl
  have hDc := hD.sub (ws' := (cal q a cA l0.length f)) [0, 1] (by decide) rfl
  have hKc := hK.sub (tys' := (kal cA)) [0] rfl
  have hFc := va_free (wc := (cal q a cA l0.length f)) hD hS hA [0, 1] rfl
  refine va_callv (va_runV (As := [.int (ap_old l0)]) (rest := []) ⟨hx, hb, hml, hown, hts⟩ (c_A_remove l dC dI q a cA l0 f (ap_old l0) H.size hn hf hnd) (cwV 1 hts gX0_dropOldest_X0_remove rfl rfl rfl (by decide +kernel) ⟨Nat.le_of_ble_eq_true rfl, Nat.le_of_ble_eq_true rfl⟩) ⟨fun a U g mk q => by obtain ⟨q0, q1, qP, qK, qD⟩ := q; exact ⟨q0, q1, qP, va_K.moved (u := U) (U := U.calling g mk a) (Vm.Alike.refl U.vm) qK, qD⟩, va_recv hKc hPc (ci := 0) (q0 := 0) rfl rfl, fun U hU hW => ⟨rfl, by rw [hU], by rw [hU]; exact hPc, va_K.moved hW.alike hKc, hDc.weaken (fun _ _ _ _ => trivial)⟩⟩ rfl rfl hl.1 rfl (lv_room (Nat.le_of_ble_eq_true rfl)) dX0_dropOldest_5 ⟨Nat.le_of_ble_eq_true rfl, Nat.le_of_ble_eq_true rfl⟩) hS (fun q _ h => hFc q h) hFc (fun u t H1 locs ht hvm hw hB hz1 hk1 hS => ?_)
  obtain ⟨n1, f1⟩ := u
  obtain ⟨hP1, hK1, hD1⟩ := hB
  rw [ht] at hP1
  try dsimp only at hw hP1 hD1
  have hw9 := hw
  obtain ⟨hP, hD⟩ := va_join (wr := []) (w1 := (cal q a cA n1 f1)) hP hD [0, 1] [] rfl rfl (by decide) (by decide) hk1 hFc hP1 hD1
  generalize H1 = H at hP hS ⊢
  replace hP : va_P (dC, dI) vwCl (cal q a cA n1 f1) H := hP
  replace hD : va_D A (cal q a cA n1 f1) := hD
  exact W.vret hx hb hr (fun t ht hW => ⟨⟨(n1, f1), rfl, hw9, by rw [ht]; exact hP, va_K.moved hW.alike hK, hD⟩, hS.F ht⟩) hS.2.2 dX0_dropOldest_8
