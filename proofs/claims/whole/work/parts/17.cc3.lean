-- a constructor, or what it calls
set_option maxHeartbeats 4000000 in
set_option maxRecDepth 100000 in
theorem c_A_init (l : Launch) (dC : Nat → ClassId) (dI : Nat → Nat → Nat) (q : Nat) (sz : Nat)  : Met l yX0_init wsX0_init ({ frames := 1, cells := 1, slots := 64, locals := 24 }) (va_Pc [.ref q] (fun U => U.heap.size = sz ∧ va_P (dC, dI) vwCl [(q, .inr (0, [.null, .int 0]))] U.heap ∧ va_K (dC, dI) vwCl [] U ∧ va_D (fun _ => True) [(q, .inr (0, [.null, .int 0]))])) (va_Qv (fun (_ : Nat × ClassId) => True) (fun (u : Nat × ClassId) (t9 : State) => va_P (dC, dI) vwCl (cal q u.1 u.2 0 (fun _ => 0)) t9.heap ∧ va_K (dC, dI) vwCl (kal u.2) t9 ∧ va_D (va_A [(q, .inr (0, [.null, .int 0]))] sz) (cal q u.1 u.2 0 (fun _ => 0))) (va_A [(q, .inr (0, [.null, .int 0]))] sz)) 1 64 (va_A [(q, .inr (0, [.null, .int 0]))] sz) := by
  refine Met.ofW (cc := cX0_init) (maxL := 1) (ret := none) (by decide) rfl ?_
  intro p e s m args below meth c s₁ B hml hv
  obtain ⟨rfl, hsz, hP, hK, hD0⟩ := hv
  have hx := B.exec
  have hb := B.bytes
  have hr := B.returns
  have hts := atoms_spec (ws := wsX0_init) B.pre
  have hown : s.vm.findClass RX0 = some m.cls := findClass_of_methodNamed B.named
  have hlocks := B.notSynchronized
  have hin : meth.name = "<init>" := (name_of_methodNamed B.named B.method).1
  have hwX0 : ∀ w ∈ u_ws RX0 TX0 2, w ∈ wsX0_init := by decide +kernel
  subst hsz
  have hD := hD0.self (sz := s.heap.size)
  generalize hAe : va_A [(q, .inr (0, [.null, .int 0]))] s.heap.size = A at hD ⊢
  have hA : ∀ q : Nat, s.heap.size ≤ q → A q := fun q h => by rw [← hAe]; exact Or.inr h
  have hS0 : ∀ H, s.heap = H → va_S A s.heap H [] := fun H h => by subst h; exact va_S.rf
  have hl := lv_entry ([.ref q]) (n := 1) (Nat.le_of_ble_eq_true rfl)
  rw [lg_entry_eq]
  generalize (lg_sl ([.ref q]) ++ List.replicate (1 - (lg_sl ([.ref q])).length) Slot.unset).toArray = ls at hl ⊢
  have hl : lv_has ls 1 [(0, .ref q)] := hl
  generalize hHe : s.heap = H at hP ⊢
  have hS := hS0 H hHe
  refine lv_aload_n hx hb dX0_init_0 rfl (lv_at hl 0 rfl) ?_
  refine W.objInit hx hb hown (hts (.methodLink RX0 3 objectInit) (by decide +kernel)) (hts (.instanceMethod objectInit) (by decide +kernel)) (hts _ (List.mem_cons_of_mem _ (List.mem_append_left _ (List.mem_of_getElem? (i := 2) rfl)))) rfl (by rw [hml]; exact hl.1) rfl dX0_init_1 (Nat.le_of_ble_eq_true rfl) (Nat.le_of_ble_eq_true rfl) ?_
  refine W.eq (g2 := F0 m 4 ls []) rfl ?_
  refine lv_aload_n hx hb dX0_init_4 rfl (lv_at hl 0 rfl) ?_
  refine lv_bipush (v := nI 64) hx hb dX0_init_5 (by decide) ?_
  refine va_newa (atype := .int) (ty := .int) (n := nI 64) (N' := 64) (a0 := (64, .inl (fun _ => 0))) hx hb (hts (.arrayClass .int) (by decide +kernel)) rfl hK hP hD hS hA (fun _ => rfl) (nI_pos (by decide)) (nI_clamp (by decide)) (by decide) (Nat.le_of_ble_eq_true rfl) (Nat.le_of_ble_eq_true rfl) dX0_init_7 (fun qa_1 cA_2 H hK hP hD hS => ?_)
  replace hP : va_P (dC, dI) vwCl [(q, .inr (0, [.null, .int 0])), (qa_1, .inl (cA_2, 64, .inl (fun _ => 0)))] H := hP
  replace hD : va_D A [(q, .inr (0, [.null, .int 0])), (qa_1, .inl (cA_2, 64, .inl (fun _ => 0)))] := hD
  replace hK : va_K (dC, dI) vwCl [(cA_2, .int)] s := hK
  refine va_putF (D := (dC, dI)) (ci := 0) (v := .ref qa_1) (ty := (.array .int)) (C := RX0) (T := TX0) (N := 2) hx hb hts hwX0 tyX0 tyX0_ok nmX0 hown hK hP hD hS 0 rfl rfl 0 (by decide) (hts (.fieldLink RX0 9 "ArcCache$AddressList" "oldestFirst" "[I") (by decide +kernel)) (fun _ h9 => h9) rfl hin rfl (by decide +kernel) rfl rfl (Nat.le_of_ble_eq_true rfl) dX0_init_9 (fun H locs hP hD hS => ?_)
  replace hP : va_P (dC, dI) vwCl [(q, .inr (0, [.ref qa_1, .int 0])), (qa_1, .inl (cA_2, 64, .inl (fun _ => 0)))] H := hP
  replace hD : va_D A [(q, .inr (0, [.ref qa_1, .int 0])), (qa_1, .inl (cA_2, 64, .inl (fun _ => 0)))] := hD
  exact W.vret hx hb hr (fun t ht hW => ⟨⟨(qa_1, cA_2), rfl, trivial, by rw [ht]; exact hP, va_K.moved hW.alike hK, hD⟩, hS.F ht⟩) hS.2.2 dX0_init_12
