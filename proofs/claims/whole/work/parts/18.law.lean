-- THE LAW (laid by wip/gen/law.py)
/-! THE CLAIM OUT OF ONE WALK OF THE LAW'S BODY. Your part is whole_start (and what it stands on); all else here is the same for every law, but numbers. -/
def R_law : String := "ArcCacheLaw"
def lw_P (b : Addr) (xs : List Int32) (args : Array Value) (s : State) : Prop := args = #[.ref b] ∧ s.IntsAt b xs ∧ xs.length ≤ 1537 ∧ (Jvm.Cond.and given_1 narrow_1).before args s = true
def lw_Q (_ : Array Value) (s : State) (o : Outcome) (t : State) : Prop := o = .returned (some (.int 1)) ∧ Framed s o t [] 18 995
def lw_Z (below : List Frame) (a : Array Value) (s : State) : State → Prop := fun t => ∃ o, t.status = .running ∧ Ended t below o ∧ lw_Q a s o t
/-- the law's own end, with 1 on the stack, nothing written that was there before, its room as the claim has it -/
theorem lw_ret {p : Program} {l : Launch} {e : Env} {s : State} {m : MethodId} {below : List Frame} {meth : Method} {c : Code} {b : Nat} (hx : p.tables.exec = Jvm.exec) (hb : c.code = code) (hr : meth.sig.returnType = ret) (hlocks : meth.locks = false) {pc : Nat} {H : Heap} {ls : Array Slot} (hdg : decode code pc = .ok (.ireturn, 1)) : W p l e room_1 s m #[Value.ref b] below meth c H [] 18 995 (lw_Z below #[Value.ref b] s) (F0 m pc ls [.int 1]) := by
  intro T hT X
  obtain ⟨fs, hret, hrun, hended, hW, hframe⟩ := X.leave (v := some (.int 1)) (hlocks := hlocks) (fun h => by rw [hr] at h; cases h)
  have hmeth' : T.vm.method? m = some meth := X.method'
  refine ⟨T.setFrames fs, ?_, .returned (some (.int 1)), hrun, hended, rfl, ⟨_, rfl⟩, hW, hframe⟩
  jvm_step X.here [X.here.top, hx, hb, hdg, hmeth', hr, ret, narrow_b1]
  (try refine ⟨rfl, ?_⟩); (try refine ⟨rfl, ?_⟩)
  first | (intro acts; rw [hret _ acts rfl rfl rfl]) | rw [hret _ _ rfl rfl rfl]
  exact Steps.refl _
/-- what holds at the law's entry: the machine, the code, the tables' words (any of lw_tbl by 'hts w (by decide +kernel)'), the script of L ints xs at the cell b, what the Statement gives of the start (any of its parts by flat_of_before) -/
def lw_At (p : Program) (s : State) (m : MethodId) (meth : Method) (c : Code) (b L : Nat) (xs : Nat → Int32) : Prop :=
  p.tables.exec = Jvm.exec ∧ c.code = code ∧ meth.sig.returnType = ret ∧ c.maxLocals = 4 ∧ s.vm.findClass R_law = some m.cls ∧ (∀ w ∈ lw_tbl, w.before #[Value.ref b] s = true) ∧ va_X b L xs s s.heap ∧ b < s.heap.size ∧ meth.locks = false ∧ (Jvm.Cond.and given_1 narrow_1).before #[Value.ref b] s = true
def ap_c0 (Ln : Nat) (xs : Nat → Int32) : Int32 := if 0 < Ln then xs 0 else 0
theorem ap_rd_ok {C tg tg1 : Nat} {x r : Int32} {L L1 : Nat → List Int32} {w d st w1 d1 st1 : Nat → Int32} {hi mi go hi1 mi1 go1 : Int32} (h : ap_ok C tg L) (e : (r, ((L1, w1, d1, st1, tg1, hi1, mi1, go1) : ap_U)) = ap_rd C x (L, w, d, st, tg, hi, mi, go)) : ap_ok C tg1 L1 := by
  unfold ap_rd at e
  by_cases hx : x < 0 ∨ nI 64 ≤ x
  · rw [if_pos hx] at e
    cases e
    exact h
  · rw [if_neg hx] at e
    have h1 := ap_rq_ok (w := w) (d := d) (st := st) (hi := hi) (mi := mi) (go := go) h (vp_in_64.mpr hx)
    rw [← (Prod.mk.inj e).2] at h1
    exact h1
theorem ap_wr_ok {C tg tg1 : Nat} {x y r : Int32} {L L1 : Nat → List Int32} {w d st w1 d1 st1 : Nat → Int32} {hi mi go hi1 mi1 go1 : Int32} (h : ap_ok C tg L) (e : (r, ((L1, w1, d1, st1, tg1, hi1, mi1, go1) : ap_U)) = ap_wr C x y (L, w, d, st, tg, hi, mi, go)) : ap_ok C tg1 L1 := by
  unfold ap_wr at e
  by_cases hx : x < 0 ∨ nI 64 ≤ x
  · rw [if_pos hx] at e
    cases e
    exact h
  · rw [if_neg hx] at e
    have h1 := ap_rq_ok (w := w) (d := d) (st := st) (hi := hi) (mi := mi) (go := go) h (vp_in_64.mpr hx)
    have e2 := (Prod.mk.inj e).2
    unfold ap_pw at e2
    have e3 : L1 = (ap_rq C x (L, w, d, st, tg, hi, mi, go)).1 := congrArg Prod.fst e2
    have e4 : tg1 = (ap_rq C x (L, w, d, st, tg, hi, mi, go)).2.2.2.2.1 := congrArg (fun u : ap_U => u.2.2.2.2.1) e2
    rw [e3, e4]
    exact h1
theorem ap_ok_0 {C : Nat} (h1 : 1 ≤ C) (h2 : C ≤ 24) : ap_ok C 0 (fun _ => []) := ⟨⟨fun _ => List.nodup_nil, fun _ _ x h => absurd h List.not_mem_nil, fun _ x h => absurd h List.not_mem_nil⟩, h1, h2, Nat.zero_le _, Nat.zero_le _, Nat.zero_le _, Nat.zero_le _⟩
theorem lw_le {i Ln : Nat} (hi : i ≤ 2000) (hL : Ln ≤ 1537) : nI Ln - nI 3 < nI i ↔ Ln < i + 3 := by
  have e1 := pk_sub_toInt (a := Ln) (b := 3) (by omega) (by decide)
  have e2 := nI_toInt (n := i) (by omega)
  constructor
  · intro h
    have h1 := Int32.lt_iff_toInt_lt.mp h
    omega
  · intro h
    apply Int32.lt_iff_toInt_lt.mpr
    omega
theorem fx_nil {f : Nat → Nat → Int32} : fx_ok f (fun _ => []) := fun _ _ _ => ar_nil
theorem fm_nil : fm_ok (fun _ => 0) (fun _ => 0) (fun _ => []) := fun _ _ _ => ⟨rfl, ar_nil⟩
set_option maxHeartbeats 4000000 in
set_option maxRecDepth 100000 in
theorem c_L_cell (l : Launch) (dC : Nat → ClassId) (dI : Nat → Nat → Nat) (b Ln : Nat) (xs : Nat → Int32) (sz : Nat) (hLn : Ln ≤ 1537) : Met l yL_cell wsL_cell ({ frames := 0, cells := 0, slots := 0, locals := 0 }) (va_Pc [.ref b, .int (nI 0)] (fun U => U.heap.size = sz ∧ va_X b Ln xs U U.heap ∧ b < sz)) (va_Qi (fun (r : Int32) (_ : Unit) => r = ap_c0 Ln xs) (fun _ _ => True) (va_A [] sz)) 0 0 (va_A [] sz) := by
  refine Met.ofW (cc := cL_cell) (maxL := 2) (ret := (some .int)) (by decide) rfl ?_
  intro p e s m args below meth c s₁ B hml hv
  obtain ⟨rfl, hsz, hX, hbl⟩ := hv
  have hx := B.exec
  have hb := B.bytes
  have hr := B.returns
  have hts := atoms_spec (ws := wsL_cell) B.pre
  have hown : s.vm.findClass RL = some m.cls := findClass_of_methodNamed B.named
  have hlocks := B.notSynchronized
  subst hsz
  have hP : va_P (dC, dI) vwCl [] s.heap := fun k q h => by simp at h
  have hD : va_D (va_A [] s.heap.size) [] := ⟨fun i j p q h => by simp at h, fun k q h => by simp at h⟩
  have hbA : ¬ va_A [] s.heap.size b := fun h9 => h9.elim (fun ⟨_, _, h8⟩ => by simp at h8) (fun h8 => Nat.not_le.mpr hbl h8)
  generalize hAe : va_A [] s.heap.size = A at hD hbA ⊢
  have hA : ∀ q : Nat, s.heap.size ≤ q → A q := fun q h => by rw [← hAe]; exact Or.inr h
  have hS0 : ∀ H, s.heap = H → va_S A s.heap H [] := fun H h => by subst h; exact va_S.rf
  have hl := lv_entry ([.ref b, .int (nI 0)]) (n := 2) (Nat.le_of_ble_eq_true rfl)
  rw [lg_entry_eq]
  generalize (lg_sl ([.ref b, .int (nI 0)]) ++ List.replicate (2 - (lg_sl ([.ref b, .int (nI 0)])).length) Slot.unset).toArray = ls at hl ⊢
  have hl : lv_has ls 2 [(0, .ref b), (1, .int (nI 0))] := hl
  generalize hHe : s.heap = H at hP ⊢
  have hS := hS0 H hHe
  refine lv_iload_n hx hb dL_cell_0 rfl (lv_at hl 1 rfl) ?_
  refine lv_aload_n hx hb dL_cell_1 rfl (lv_at hl 0 rfl) ?_
  refine va_slen hx hb hX hbl hbA hS dL_cell_2 ?_
  refine lv_icmp_ge (tgt := 12) hx hb dL_cell_3 (by decide) (fun c_3 => ?_) (fun c_3 => ?_)
  · skip
    replace c_3 : Ln ≤ 0 := (nI_leI (a := Ln) (b := 0) (by omega) (by omega)).mp c_3
    replace c_3 : ¬ 0 < Ln := by omega
    refine lv_iconst (v := nI 0) hx hb dL_cell_12 (by decide) ?_
    exact W.iret (v := nI 0) hx hb hr (fun t ht hW => ⟨⟨nI 0, (), rfl, by unfold ap_c0; rw [if_neg c_3]; rfl, trivial⟩, hS.F ht⟩) hS.2.2 dL_cell_13
  · skip
    replace c_3 : ¬ (Ln ≤ 0) := fun h9 => c_3 ((nI_leI (a := Ln) (b := 0) (by omega) (by omega)).mpr h9)
    replace c_3 : 0 < Ln := by omega
    refine lv_aload_n hx hb dL_cell_6 rfl (lv_at hl 0 rfl) ?_
    refine lv_iload_n hx hb dL_cell_7 rfl (lv_at hl 1 rfl) ?_
    refine va_sld hx hb hX hbl hbA hS (vp_in_nI (show 0 < Ln by omega) (by omega)) dL_cell_8 ?_
    refine lv_topi (fun x_1 e_x_1 => ?_)
    have e_x_1 : x_1 = xs 0 := by rw [e_x_1]; rw [nI_clamp (by omega)]
    subst e_x_1
    refine lv_goto (tgt := 13) hx hb dL_cell_9 (by decide) ?_
    exact W.iret (v := xs 0) hx hb hr (fun t ht hW => ⟨⟨xs 0, (), rfl, by unfold ap_c0; rw [if_pos c_3], trivial⟩, hS.F ht⟩) hS.2.2 dL_cell_13
set_option maxHeartbeats 8000000 in
set_option maxRecDepth 100000 in
/-- THE LAW'S LOOP: at its head both objects hold one and the same state -/
theorem law_loop {p : Program} {l : Launch} {e : Env} {s : State} {m : MethodId} {below : List Frame} {meth : Method} {c : Code} {dC : Nat → ClassId} {dI : Nat → Nat → Nat} {b Ln : Nat} {xs : Nat → Int32} (hL : Ln ≤ 1537) (C0 : lw_At p s m meth c b Ln xs) {A : Nat → Prop} (hA : ∀ q, s.heap.size ≤ q → A q) (hA2 : ∀ q, A q → s.heap.size ≤ q) (C : Nat) :
    ∀ (n i : Nat) (qx qm : Nat → Nat) (cax cam : Nat → ClassId) (fx : Nat → Nat → Int32) (fm nm : Nat → Int32) (L : Nat → List Int32) (w d st : Nat → Int32) (tg : Nat) (hi mi go : Int32) (H : Heap) (locs : List Loc), i ≤ Ln + 3 → ap_ok C tg L → fx_ok fx L → fm_ok fm nm L → va_K (dC, dI) vwCl (kx cax ++ km cam) s → va_P (dC, dI) vwCl ((cx qx cax C L fx w d st tg hi mi go) ++ (cm qm cam C fm nm w d st tg hi mi go)) H → va_D A ((cx qx cax C L fx w d st tg hi mi go) ++ (cm qm cam C fm nm w d st tg hi mi go)) → va_S A s.heap H locs → ∀ (ls : Array Slot), lv_has ls 4 [(0, .ref b), (1, .ref (qx 0)), (2, .ref (qm 0)), (3, .int (nI i))] → Ln + 4 ≤ i + n → W p l e room_1 s m #[Value.ref b] below meth c H locs 18 995 (lw_Z below #[Value.ref b] s) (F0 m 28 ls []) := by
  obtain ⟨hx, hb, hr, hml, hown, hts0, hX, hbl, hlocks, hgv⟩ := C0
  have hN : va_Nw (.methodLinkNest RX0 23 yX1_isAddress "ArcCache") s := va_Nw.of rfl (hts0 (.methodLinkNest RX0 23 yX1_isAddress "ArcCache") (by decide +kernel))
  have hts : ∀ w ∈ wsL_law, w.before #[Value.ref b] s = true := fun w h => hts0 w (wsL_law_in w h)
  have hbA : ¬ A b := fun h => Nat.not_le.mpr hbl (hA2 b h)
  intro n
  induction n with
  | zero => intro i qx qm cax cam fx fm nm L w d st tg hi mi go H locs h1 hok hfx hfm hK hP hD hS ls hl hk; exact absurd hk (by omega)
  | succ n ih =>
    intro i qx qm cax cam fx fm nm L w d st tg hi mi go H locs h1 hok hfx hfm hK hP hD hS ls hl hk
    have hz : ap_tot L ≤ 48 := by have h8 := hok.2.2.1; have h9 := hok.2.2.2.2.2.2; omega
    refine lv_iload_n hx hb dL_law_28 rfl (lv_at hl 3 rfl) ?_
    refine lv_aload_n hx hb dL_law_29 rfl (lv_at hl 0 rfl) ?_
    refine va_slen hx hb hX hbl hbA hS dL_law_30 ?_
    refine lv_iconst (v := nI 3) hx hb dL_law_31 (by decide) ?_
    refine lv_isub hx hb dL_law_32 ?_
    refine lv_icmp_gt (tgt := 371) hx hb dL_law_33 (by decide) (fun c_33 => ?_) (fun c_33 => ?_)
    · skip
      refine lv_iconst (v := 1) hx hb dL_law_371 (by decide) ?_
      refine va_forget (fun q hq => hA2 _ (hS.2.2 q hq)) ?_
      exact lw_ret hx hb hr hlocks dL_law_372
    · skip
      replace c_33 : i + 3 ≤ Ln := Nat.not_lt.mp (fun h9 => c_33 ((lw_le (by omega) hL).mpr h9))
      refine lv_aload_n hx hb dL_law_36 rfl (lv_at hl 0 rfl) ?_
      refine lv_iload_n hx hb dL_law_37 rfl (lv_at hl 3 rfl) ?_
      refine va_sld hx hb hX hbl hbA hS (vp_in_nI (show i < Ln by omega) (by omega)) dL_law_38 ?_
      refine lv_topi (fun x_1 e_x_1 => ?_)
      have e_x_1 : x_1 = xs i := by rw [e_x_1]; rw [nI_clamp (by omega)]
      subst e_x_1
      refine lv_bipush (v := nI 15) hx hb dL_law_39 (by decide) ?_
      refine lv_iand hx hb dL_law_41 ?_
      obtain ⟨j, hj, ej⟩ := pk_andE (xs i) (m := nI 15) 4 (by decide)
      rw [ej]
      clear ej
      have hj16 : j = 0 ∨ j = 1 ∨ j = 2 ∨ j = 3 ∨ j = 4 ∨ j = 5 ∨ j = 6 ∨ j = 7 ∨ j = 8 ∨ j = 9 ∨ j = 10 ∨ j = 11 ∨ j = 12 ∨ j = 13 ∨ j = 14 ∨ j = 15 := by omega
      rcases hj16 with rfl | rfl | rfl | rfl | rfl | rfl | rfl | rfl | rfl | rfl | rfl | rfl | rfl | rfl | rfl | rfl
      · skip
        refine lv_tableIn (tgt := 108) (off := 66) hx hb dL_law_42 (by decide) (by decide) (by decide) (by decide) ?_
        refine lv_aload_n hx hb dL_law_108 rfl (lv_at hl 1 rfl) ?_
        have hPc := hP.sub (ws' := (cx qx cax C L fx w d st tg hi mi go)) [0, 1, 2, 3, 4, 5, 6, 7, 8, 9, 10, 11] rfl
        have hDc := hD.sub (ws' := (cx qx cax C L fx w d st tg hi mi go)) [0, 1, 2, 3, 4, 5, 6, 7, 8, 9, 10, 11] (by decide) rfl
        have hKc := hK.sub (tys' := (kx cax)) [0, 1, 2, 3, 4, 5, 6] rfl
        have hFc := va_free (wc := (cx qx cax C L fx w d st tg hi mi go)) hD hS hA [0, 1, 2, 3, 4, 5, 6, 7, 8, 9, 10, 11] rfl
        refine va_callv (va_runV (As := []) (rest := []) ⟨hx, hb, hml, hown, hts⟩ (c_X_init_ l dC dI qx cax C L fx w d st tg hi mi go  H.size hfx) (cwV 0 hts gL_law_X1_init_ rfl rfl rfl (by decide +kernel) ⟨Nat.le_of_ble_eq_true rfl, Nat.le_of_ble_eq_true rfl⟩) ⟨fun a U g mk q => by obtain ⟨q0, q1, qP, qK, qD⟩ := q; exact ⟨q0, q1, qP, va_K.moved (u := U) (U := U.calling g mk a) (Vm.Alike.refl U.vm) qK, qD⟩, va_recv hKc hPc (ci := 1) (q0 := 0) rfl rfl, fun U hU hW => ⟨rfl, by rw [hU], by rw [hU]; exact hPc, va_K.moved hW.alike hKc, hDc.weaken (fun _ _ _ _ => trivial)⟩⟩ rfl rfl hl.1 rfl (lv_room (Nat.le_of_ble_eq_true rfl)) dL_law_109 ⟨Nat.le_of_ble_eq_true rfl, Nat.le_of_ble_eq_true rfl⟩) hS (fun q _ h => hFc q h) hFc (fun u t H1 locs ht hvm hw hB hz1 hk1 hS => ?_)
        obtain ⟨L1, w1, d1, st1, tg1, hi1, mi1, go1⟩ := u
        obtain ⟨f1, hf1, hP1, hK1, hD1⟩ := hB
        rw [ht] at hP1
        have hw9 := hw
        obtain ⟨Lz_2, wz_2, dz_2, stz_2, tgz_2, hiz_2, miz_2, goz_2, fz_2, hren9⟩ : ∃ Lz_2 wz_2 dz_2 stz_2 tgz_2 hiz_2 miz_2 goz_2 fz_2, Lz_2 = L1 ∧ wz_2 = w1 ∧ dz_2 = d1 ∧ stz_2 = st1 ∧ tgz_2 = tg1 ∧ hiz_2 = hi1 ∧ miz_2 = mi1 ∧ goz_2 = go1 ∧ fz_2 = f1 := ⟨_, _, _, _, _, _, _, _, _, rfl, rfl, rfl, rfl, rfl, rfl, rfl, rfl, rfl⟩
        obtain ⟨rfl, rfl, rfl, rfl, rfl, rfl, rfl, rfl, rfl⟩ := hren9
        have hfz_2 := hf1
        have hwz_2 := hw9
        obtain ⟨hP, hD⟩ := va_join (wr := (cm qm cam C fm nm w d st tg hi mi go)) (w1 := (cx qx cax C Lz_2 fz_2 wz_2 dz_2 stz_2 tgz_2 hiz_2 miz_2 goz_2)) hP hD [0, 1, 2, 3, 4, 5, 6, 7, 8, 9, 10, 11] [12, 13, 14, 15, 16, 17] rfl rfl (by decide) (by decide) hk1 hFc hP1 hD1
        generalize H1 = H at hP hS ⊢
        replace hP := hP.sub (ws' := ((cx qx cax C Lz_2 fz_2 wz_2 dz_2 stz_2 tgz_2 hiz_2 miz_2 goz_2) ++ (cm qm cam C fm nm w d st tg hi mi go))) [6, 7, 8, 9, 10, 11, 12, 13, 14, 15, 16, 17, 0, 1, 2, 3, 4, 5] rfl
        replace hD := hD.sub (ws' := ((cx qx cax C Lz_2 fz_2 wz_2 dz_2 stz_2 tgz_2 hiz_2 miz_2 goz_2) ++ (cm qm cam C fm nm w d st tg hi mi go))) [6, 7, 8, 9, 10, 11, 12, 13, 14, 15, 16, 17, 0, 1, 2, 3, 4, 5] (by decide) rfl
        refine lv_aload_n hx hb dL_law_112 rfl (lv_at hl 2 rfl) ?_
        have hPc := hP.sub (ws' := (cm qm cam C fm nm w d st tg hi mi go)) [12, 13, 14, 15, 16, 17] rfl
        have hDc := hD.sub (ws' := (cm qm cam C fm nm w d st tg hi mi go)) [12, 13, 14, 15, 16, 17] (by decide) rfl
        have hKc := hK.sub (tys' := (km cam)) [7, 8, 9, 10, 11] rfl
        have hFc := va_free (wc := (cm qm cam C fm nm w d st tg hi mi go)) hD hS hA [12, 13, 14, 15, 16, 17] rfl
        refine va_callv (va_runV (As := []) (rest := []) ⟨hx, hb, hml, hown, hts⟩ (c_M_init_ l dC dI qm cam C fm nm w d st tg hi mi go L  H.size hfm) (cwV 0 hts gL_law_X2_init_ rfl rfl rfl (by decide +kernel) ⟨Nat.le_of_ble_eq_true rfl, Nat.le_of_ble_eq_true rfl⟩) ⟨fun a U g mk q => by obtain ⟨q0, q1, qP, qK, qD⟩ := q; exact ⟨q0, q1, qP, va_K.moved (u := U) (U := U.calling g mk a) (Vm.Alike.refl U.vm) qK, qD⟩, va_recv hKc hPc (ci := 2) (q0 := 0) rfl rfl, fun U hU hW => ⟨rfl, by rw [hU], by rw [hU]; exact hPc, va_K.moved hW.alike hKc, hDc.weaken (fun _ _ _ _ => trivial)⟩⟩ rfl rfl hl.1 rfl (lv_room (Nat.le_of_ble_eq_true rfl)) dL_law_113 ⟨Nat.le_of_ble_eq_true rfl, Nat.le_of_ble_eq_true rfl⟩) hS (fun q _ h => hFc q h) hFc (fun u t H1 locs ht hvm hw hB hz1 hk1 hS => ?_)
        obtain ⟨L1, w1, d1, st1, tg1, hi1, mi1, go1⟩ := u
        obtain ⟨f1, n1, hf1, hP1, hK1, hD1⟩ := hB
        rw [ht] at hP1
        have hw9 := hw
        obtain ⟨Lz_3, wz_3, dz_3, stz_3, tgz_3, hiz_3, miz_3, goz_3, fz_3, nz_3, hren9⟩ : ∃ Lz_3 wz_3 dz_3 stz_3 tgz_3 hiz_3 miz_3 goz_3 fz_3 nz_3, Lz_3 = L1 ∧ wz_3 = w1 ∧ dz_3 = d1 ∧ stz_3 = st1 ∧ tgz_3 = tg1 ∧ hiz_3 = hi1 ∧ miz_3 = mi1 ∧ goz_3 = go1 ∧ fz_3 = f1 ∧ nz_3 = n1 := ⟨_, _, _, _, _, _, _, _, _, _, rfl, rfl, rfl, rfl, rfl, rfl, rfl, rfl, rfl, rfl⟩
        obtain ⟨rfl, rfl, rfl, rfl, rfl, rfl, rfl, rfl, rfl, rfl⟩ := hren9
        have hfz_3 := hf1
        have hwz_3 := hw9
        obtain ⟨hP, hD⟩ := va_join (wr := (cx qx cax C Lz_2 fz_2 wz_2 dz_2 stz_2 tgz_2 hiz_2 miz_2 goz_2)) (w1 := (cm qm cam C fz_3 nz_3 wz_3 dz_3 stz_3 tgz_3 hiz_3 miz_3 goz_3)) hP hD [12, 13, 14, 15, 16, 17] [0, 1, 2, 3, 4, 5, 6, 7, 8, 9, 10, 11] rfl rfl (by decide) (by decide) hk1 hFc hP1 hD1
        generalize H1 = H at hP hS ⊢
        replace hP : va_P (dC, dI) vwCl ((cx qx cax C Lz_2 fz_2 wz_2 dz_2 stz_2 tgz_2 hiz_2 miz_2 goz_2) ++ (cm qm cam C fz_3 nz_3 wz_3 dz_3 stz_3 tgz_3 hiz_3 miz_3 goz_3)) H := hP
        replace hD : va_D A ((cx qx cax C Lz_2 fz_2 wz_2 dz_2 stz_2 tgz_2 hiz_2 miz_2 goz_2) ++ (cm qm cam C fz_3 nz_3 wz_3 dz_3 stz_3 tgz_3 hiz_3 miz_3 goz_3)) := hD
        cases hwz_2
        cases hwz_3
        refine lv_goto (tgt := 365) hx hb dL_law_116 (by decide) ?_
        refine lv_iinc (v := nI (i + 3)) (lv' := [(3, .int (nI (i + 3))), (0, .ref b), (1, .ref (qx 0)), (2, .ref (qm 0))]) hx hb dL_law_365 hl (k := 3) rfl (nI_add _ _) (by decide) rfl (fun ls hl => ?_)
        refine lv_goto (tgt := 28) hx hb dL_law_368 (by decide) ?_
        exact ih (i + 3) _ _ _ _ _ _ _ _ _ _ _ _ _ _ _ _ _ (by omega) (ap_ok_0 hok.2.1 hok.2.2.1) hfz_2 hfz_3 hK hP hD hS _ (lv_sub hl [1, 2, 3, 0] rfl) (by omega)
      · skip
        refine lv_tableIn (tgt := 119) (off := 77) hx hb dL_law_42 (by decide) (by decide) (by decide) (by decide) ?_
        refine lv_aload_n hx hb dL_law_119 rfl (lv_at hl 1 rfl) ?_
        refine lv_aload_n hx hb dL_law_120 rfl (lv_at hl 0 rfl) ?_
        refine lv_iload_n hx hb dL_law_121 rfl (lv_at hl 3 rfl) ?_
        refine lv_iconst (v := nI 1) hx hb dL_law_122 (by decide) ?_
        refine lv_iadd hx hb dL_law_123 ?_
        refine lv_topi (fun x_4 e_x_4 => ?_)
        have e_x_4 : x_4 = nI (i + 1) := by rw [e_x_4]; exact nI_add _ _
        subst e_x_4
        refine va_sld hx hb hX hbl hbA hS (vp_in_nI (show i + 1 < Ln by omega) (by omega)) dL_law_124 ?_
        refine lv_topi (fun x_5 e_x_5 => ?_)
        have e_x_5 : x_5 = xs (i + 1) := by rw [e_x_5]; rw [nI_clamp (by omega)]
        subst e_x_5
        have hPc := hP.sub (ws' := (cx qx cax C L fx w d st tg hi mi go)) [0, 1, 2, 3, 4, 5, 6, 7, 8, 9, 10, 11] rfl
        have hDc := hD.sub (ws' := (cx qx cax C L fx w d st tg hi mi go)) [0, 1, 2, 3, 4, 5, 6, 7, 8, 9, 10, 11] (by decide) rfl
        have hKc := hK.sub (tys' := (kx cax)) [0, 1, 2, 3, 4, 5, 6] rfl
        have hFc := va_free (wc := (cx qx cax C L fx w d st tg hi mi go)) hD hS hA [0, 1, 2, 3, 4, 5, 6, 7, 8, 9, 10, 11] rfl
        refine va_calli (va_runV (As := [.int (xs (i + 1))]) (rest := []) ⟨hx, hb, hml, hown, hts⟩ (c_X_read l dC dI qx cax C L fx w d st tg hi mi go (xs (i + 1)) H.size hfx hok) (cwV 1 hts gL_law_X1_read rfl rfl rfl (by decide +kernel) ⟨Nat.le_of_ble_eq_true rfl, Nat.le_of_ble_eq_true rfl⟩) ⟨fun a U g mk q => by obtain ⟨q0, q1, qP, qK, qD, qN⟩ := q; exact ⟨q0, q1, qP, va_K.moved (u := U) (U := U.calling g mk a) (Vm.Alike.refl U.vm) qK, qD, va_tabs rfl (rfl : U.vm = (U.calling g mk a).vm) qN⟩, va_recv hKc hPc (ci := 1) (q0 := 0) rfl rfl, fun U hU hW => ⟨rfl, by rw [hU], by rw [hU]; exact hPc, va_K.moved hW.alike hKc, hDc.weaken (fun _ _ _ _ => trivial), va_Nw.warmM hW hN⟩⟩ rfl rfl hl.1 rfl (lv_room (Nat.le_of_ble_eq_true rfl)) dL_law_125 ⟨Nat.le_of_ble_eq_true rfl, Nat.le_of_ble_eq_true rfl⟩) hS (fun q _ h => hFc q h) hFc (fun r u t H1 locs ht hvm hw hB hz1 hk1 hS => ?_)
        obtain ⟨L1, w1, d1, st1, tg1, hi1, mi1, go1⟩ := u
        obtain ⟨f1, hf1, hP1, hK1, hD1⟩ := hB
        rw [ht] at hP1
        have hw9 := hw
        obtain ⟨Lz_6, wz_6, dz_6, stz_6, tgz_6, hiz_6, miz_6, goz_6, fz_6, hren9⟩ : ∃ Lz_6 wz_6 dz_6 stz_6 tgz_6 hiz_6 miz_6 goz_6 fz_6, Lz_6 = L1 ∧ wz_6 = w1 ∧ dz_6 = d1 ∧ stz_6 = st1 ∧ tgz_6 = tg1 ∧ hiz_6 = hi1 ∧ miz_6 = mi1 ∧ goz_6 = go1 ∧ fz_6 = f1 := ⟨_, _, _, _, _, _, _, _, _, rfl, rfl, rfl, rfl, rfl, rfl, rfl, rfl, rfl⟩
        obtain ⟨rfl, rfl, rfl, rfl, rfl, rfl, rfl, rfl, rfl⟩ := hren9
        have hfz_6 := hf1
        have hwz_6 := hw9
        obtain ⟨hP, hD⟩ := va_join (wr := (cm qm cam C fm nm w d st tg hi mi go)) (w1 := (cx qx cax C Lz_6 fz_6 wz_6 dz_6 stz_6 tgz_6 hiz_6 miz_6 goz_6)) hP hD [0, 1, 2, 3, 4, 5, 6, 7, 8, 9, 10, 11] [12, 13, 14, 15, 16, 17] rfl rfl (by decide) (by decide) hk1 hFc hP1 hD1
        generalize H1 = H at hP hS ⊢
        replace hP := hP.sub (ws' := ((cx qx cax C Lz_6 fz_6 wz_6 dz_6 stz_6 tgz_6 hiz_6 miz_6 goz_6) ++ (cm qm cam C fm nm w d st tg hi mi go))) [6, 7, 8, 9, 10, 11, 12, 13, 14, 15, 16, 17, 0, 1, 2, 3, 4, 5] rfl
        replace hD := hD.sub (ws' := ((cx qx cax C Lz_6 fz_6 wz_6 dz_6 stz_6 tgz_6 hiz_6 miz_6 goz_6) ++ (cm qm cam C fm nm w d st tg hi mi go))) [6, 7, 8, 9, 10, 11, 12, 13, 14, 15, 16, 17, 0, 1, 2, 3, 4, 5] (by decide) rfl
        obtain ⟨rx, erx⟩ : ∃ z, z = r := ⟨_, rfl⟩
        rw [← erx] at hwz_6 ⊢
        clear erx
        refine lv_aload_n hx hb dL_law_128 rfl (lv_at hl 2 rfl) ?_
        refine lv_aload_n hx hb dL_law_129 rfl (lv_at hl 0 rfl) ?_
        refine lv_iload_n hx hb dL_law_130 rfl (lv_at hl 3 rfl) ?_
        refine lv_iconst (v := nI 1) hx hb dL_law_131 (by decide) ?_
        refine lv_iadd hx hb dL_law_132 ?_
        refine lv_topi (fun x_7 e_x_7 => ?_)
        have e_x_7 : x_7 = nI (i + 1) := by rw [e_x_7]; exact nI_add _ _
        subst e_x_7
        refine va_sld hx hb hX hbl hbA hS (vp_in_nI (show i + 1 < Ln by omega) (by omega)) dL_law_133 ?_
        refine lv_topi (fun x_8 e_x_8 => ?_)
        have e_x_8 : x_8 = xs (i + 1) := by rw [e_x_8]; rw [nI_clamp (by omega)]
        subst e_x_8
        have hPc := hP.sub (ws' := (cm qm cam C fm nm w d st tg hi mi go)) [12, 13, 14, 15, 16, 17] rfl
        have hDc := hD.sub (ws' := (cm qm cam C fm nm w d st tg hi mi go)) [12, 13, 14, 15, 16, 17] (by decide) rfl
        have hKc := hK.sub (tys' := (km cam)) [7, 8, 9, 10, 11] rfl
        have hFc := va_free (wc := (cm qm cam C fm nm w d st tg hi mi go)) hD hS hA [12, 13, 14, 15, 16, 17] rfl
        refine va_calli (va_runV (As := [.int (xs (i + 1))]) (rest := [.int rx]) ⟨hx, hb, hml, hown, hts⟩ (c_M_read l dC dI qm cam C fm nm w d st tg hi mi go L (xs (i + 1)) H.size hfm hok) (cwV 1 hts gL_law_X2_read rfl rfl rfl (by decide +kernel) ⟨Nat.le_of_ble_eq_true rfl, Nat.le_of_ble_eq_true rfl⟩) ⟨fun a U g mk q => by obtain ⟨q0, q1, qP, qK, qD⟩ := q; exact ⟨q0, q1, qP, va_K.moved (u := U) (U := U.calling g mk a) (Vm.Alike.refl U.vm) qK, qD⟩, va_recv hKc hPc (ci := 2) (q0 := 0) rfl rfl, fun U hU hW => ⟨rfl, by rw [hU], by rw [hU]; exact hPc, va_K.moved hW.alike hKc, hDc.weaken (fun _ _ _ _ => trivial)⟩⟩ rfl rfl hl.1 rfl (lv_room (Nat.le_of_ble_eq_true rfl)) dL_law_134 ⟨Nat.le_of_ble_eq_true rfl, Nat.le_of_ble_eq_true rfl⟩) hS (fun q _ h => hFc q h) hFc (fun r u t H1 locs ht hvm hw hB hz1 hk1 hS => ?_)
        obtain ⟨L1, w1, d1, st1, tg1, hi1, mi1, go1⟩ := u
        obtain ⟨f1, n1, hf1, hP1, hK1, hD1⟩ := hB
        rw [ht] at hP1
        have hw9 := hw
        obtain ⟨Lz_9, wz_9, dz_9, stz_9, tgz_9, hiz_9, miz_9, goz_9, fz_9, nz_9, hren9⟩ : ∃ Lz_9 wz_9 dz_9 stz_9 tgz_9 hiz_9 miz_9 goz_9 fz_9 nz_9, Lz_9 = L1 ∧ wz_9 = w1 ∧ dz_9 = d1 ∧ stz_9 = st1 ∧ tgz_9 = tg1 ∧ hiz_9 = hi1 ∧ miz_9 = mi1 ∧ goz_9 = go1 ∧ fz_9 = f1 ∧ nz_9 = n1 := ⟨_, _, _, _, _, _, _, _, _, _, rfl, rfl, rfl, rfl, rfl, rfl, rfl, rfl, rfl, rfl⟩
        obtain ⟨rfl, rfl, rfl, rfl, rfl, rfl, rfl, rfl, rfl, rfl⟩ := hren9
        have hfz_9 := hf1
        have hwz_9 := hw9
        obtain ⟨hP, hD⟩ := va_join (wr := (cx qx cax C Lz_6 fz_6 wz_6 dz_6 stz_6 tgz_6 hiz_6 miz_6 goz_6)) (w1 := (cm qm cam C fz_9 nz_9 wz_9 dz_9 stz_9 tgz_9 hiz_9 miz_9 goz_9)) hP hD [12, 13, 14, 15, 16, 17] [0, 1, 2, 3, 4, 5, 6, 7, 8, 9, 10, 11] rfl rfl (by decide) (by decide) hk1 hFc hP1 hD1
        generalize H1 = H at hP hS ⊢
        replace hP : va_P (dC, dI) vwCl ((cx qx cax C Lz_6 fz_6 wz_6 dz_6 stz_6 tgz_6 hiz_6 miz_6 goz_6) ++ (cm qm cam C fz_9 nz_9 wz_9 dz_9 stz_9 tgz_9 hiz_9 miz_9 goz_9)) H := hP
        replace hD : va_D A ((cx qx cax C Lz_6 fz_6 wz_6 dz_6 stz_6 tgz_6 hiz_6 miz_6 goz_6) ++ (cm qm cam C fz_9 nz_9 wz_9 dz_9 stz_9 tgz_9 hiz_9 miz_9 goz_9)) := hD
        have hok9 := ap_rd_ok hok hwz_6
        have heq9 := hwz_6.trans hwz_9.symm
        simp only [Prod.mk.injEq] at heq9
        obtain ⟨rfl, rfl, rfl, rfl, rfl, rfl, rfl, rfl, rfl⟩ := heq9
        refine lv_icmp_eq (tgt := 365) hx hb dL_law_137 (by decide) (fun c_137 => ?_) (fun c_137 => ?_)
        · skip
          refine lv_iinc (v := nI (i + 3)) (lv' := [(3, .int (nI (i + 3))), (0, .ref b), (1, .ref (qx 0)), (2, .ref (qm 0))]) hx hb dL_law_365 hl (k := 3) rfl (nI_add _ _) (by decide) rfl (fun ls hl => ?_)
          refine lv_goto (tgt := 28) hx hb dL_law_368 (by decide) ?_
          exact ih (i + 3) _ _ _ _ _ _ _ _ _ _ _ _ _ _ _ _ _ (by omega) hok9 hfz_6 hfz_9 hK hP hD hS _ (lv_sub hl [1, 2, 3, 0] rfl) (by omega)
        · skip
          exact absurd rfl c_137
      · skip
        refine lv_tableIn (tgt := 142) (off := 100) hx hb dL_law_42 (by decide) (by decide) (by decide) (by decide) ?_
        refine lv_aload_n hx hb dL_law_142 rfl (lv_at hl 1 rfl) ?_
        refine lv_aload_n hx hb dL_law_143 rfl (lv_at hl 0 rfl) ?_
        refine lv_iload_n hx hb dL_law_144 rfl (lv_at hl 3 rfl) ?_
        refine lv_iconst (v := nI 1) hx hb dL_law_145 (by decide) ?_
        refine lv_iadd hx hb dL_law_146 ?_
        refine lv_topi (fun x_10 e_x_10 => ?_)
        have e_x_10 : x_10 = nI (i + 1) := by rw [e_x_10]; exact nI_add _ _
        subst e_x_10
        refine va_sld hx hb hX hbl hbA hS (vp_in_nI (show i + 1 < Ln by omega) (by omega)) dL_law_147 ?_
        refine lv_topi (fun x_11 e_x_11 => ?_)
        have e_x_11 : x_11 = xs (i + 1) := by rw [e_x_11]; rw [nI_clamp (by omega)]
        subst e_x_11
        refine lv_aload_n hx hb dL_law_148 rfl (lv_at hl 0 rfl) ?_
        refine lv_iload_n hx hb dL_law_149 rfl (lv_at hl 3 rfl) ?_
        refine lv_iconst (v := nI 2) hx hb dL_law_150 (by decide) ?_
        refine lv_iadd hx hb dL_law_151 ?_
        refine lv_topi (fun x_12 e_x_12 => ?_)
        have e_x_12 : x_12 = nI (i + 2) := by rw [e_x_12]; exact nI_add _ _
        subst e_x_12
        refine va_sld hx hb hX hbl hbA hS (vp_in_nI (show i + 2 < Ln by omega) (by omega)) dL_law_152 ?_
        refine lv_topi (fun x_13 e_x_13 => ?_)
        have e_x_13 : x_13 = xs (i + 2) := by rw [e_x_13]; rw [nI_clamp (by omega)]
        subst e_x_13
        have hPc := hP.sub (ws' := (cx qx cax C L fx w d st tg hi mi go)) [0, 1, 2, 3, 4, 5, 6, 7, 8, 9, 10, 11] rfl
        have hDc := hD.sub (ws' := (cx qx cax C L fx w d st tg hi mi go)) [0, 1, 2, 3, 4, 5, 6, 7, 8, 9, 10, 11] (by decide) rfl
        have hKc := hK.sub (tys' := (kx cax)) [0, 1, 2, 3, 4, 5, 6] rfl
        have hFc := va_free (wc := (cx qx cax C L fx w d st tg hi mi go)) hD hS hA [0, 1, 2, 3, 4, 5, 6, 7, 8, 9, 10, 11] rfl
        refine va_calli (va_runV (As := [.int (xs (i + 1)), .int (xs (i + 2))]) (rest := []) ⟨hx, hb, hml, hown, hts⟩ (c_X_write l dC dI qx cax C L fx w d st tg hi mi go (xs (i + 1)) (xs (i + 2)) H.size hfx hok) (cwV 2 hts gL_law_X1_write rfl rfl rfl (by decide +kernel) ⟨Nat.le_of_ble_eq_true rfl, Nat.le_of_ble_eq_true rfl⟩) ⟨fun a U g mk q => by obtain ⟨q0, q1, qP, qK, qD, qN⟩ := q; exact ⟨q0, q1, qP, va_K.moved (u := U) (U := U.calling g mk a) (Vm.Alike.refl U.vm) qK, qD, va_tabs rfl (rfl : U.vm = (U.calling g mk a).vm) qN⟩, va_recv hKc hPc (ci := 1) (q0 := 0) rfl rfl, fun U hU hW => ⟨rfl, by rw [hU], by rw [hU]; exact hPc, va_K.moved hW.alike hKc, hDc.weaken (fun _ _ _ _ => trivial), va_Nw.warmM hW hN⟩⟩ rfl rfl hl.1 rfl (lv_room (Nat.le_of_ble_eq_true rfl)) dL_law_153 ⟨Nat.le_of_ble_eq_true rfl, Nat.le_of_ble_eq_true rfl⟩) hS (fun q _ h => hFc q h) hFc (fun r u t H1 locs ht hvm hw hB hz1 hk1 hS => ?_)
        obtain ⟨L1, w1, d1, st1, tg1, hi1, mi1, go1⟩ := u
        obtain ⟨f1, hf1, hP1, hK1, hD1⟩ := hB
        rw [ht] at hP1
        have hw9 := hw
        obtain ⟨Lz_14, wz_14, dz_14, stz_14, tgz_14, hiz_14, miz_14, goz_14, fz_14, hren9⟩ : ∃ Lz_14 wz_14 dz_14 stz_14 tgz_14 hiz_14 miz_14 goz_14 fz_14, Lz_14 = L1 ∧ wz_14 = w1 ∧ dz_14 = d1 ∧ stz_14 = st1 ∧ tgz_14 = tg1 ∧ hiz_14 = hi1 ∧ miz_14 = mi1 ∧ goz_14 = go1 ∧ fz_14 = f1 := ⟨_, _, _, _, _, _, _, _, _, rfl, rfl, rfl, rfl, rfl, rfl, rfl, rfl, rfl⟩
        obtain ⟨rfl, rfl, rfl, rfl, rfl, rfl, rfl, rfl, rfl⟩ := hren9
        have hfz_14 := hf1
        have hwz_14 := hw9
        obtain ⟨hP, hD⟩ := va_join (wr := (cm qm cam C fm nm w d st tg hi mi go)) (w1 := (cx qx cax C Lz_14 fz_14 wz_14 dz_14 stz_14 tgz_14 hiz_14 miz_14 goz_14)) hP hD [0, 1, 2, 3, 4, 5, 6, 7, 8, 9, 10, 11] [12, 13, 14, 15, 16, 17] rfl rfl (by decide) (by decide) hk1 hFc hP1 hD1
        generalize H1 = H at hP hS ⊢
        replace hP := hP.sub (ws' := ((cx qx cax C Lz_14 fz_14 wz_14 dz_14 stz_14 tgz_14 hiz_14 miz_14 goz_14) ++ (cm qm cam C fm nm w d st tg hi mi go))) [6, 7, 8, 9, 10, 11, 12, 13, 14, 15, 16, 17, 0, 1, 2, 3, 4, 5] rfl
        replace hD := hD.sub (ws' := ((cx qx cax C Lz_14 fz_14 wz_14 dz_14 stz_14 tgz_14 hiz_14 miz_14 goz_14) ++ (cm qm cam C fm nm w d st tg hi mi go))) [6, 7, 8, 9, 10, 11, 12, 13, 14, 15, 16, 17, 0, 1, 2, 3, 4, 5] (by decide) rfl
        obtain ⟨rx, erx⟩ : ∃ z, z = r := ⟨_, rfl⟩
        rw [← erx] at hwz_14 ⊢
        clear erx
        refine lv_aload_n hx hb dL_law_156 rfl (lv_at hl 2 rfl) ?_
        refine lv_aload_n hx hb dL_law_157 rfl (lv_at hl 0 rfl) ?_
        refine lv_iload_n hx hb dL_law_158 rfl (lv_at hl 3 rfl) ?_
        refine lv_iconst (v := nI 1) hx hb dL_law_159 (by decide) ?_
        refine lv_iadd hx hb dL_law_160 ?_
        refine lv_topi (fun x_15 e_x_15 => ?_)
        have e_x_15 : x_15 = nI (i + 1) := by rw [e_x_15]; exact nI_add _ _
        subst e_x_15
        refine va_sld hx hb hX hbl hbA hS (vp_in_nI (show i + 1 < Ln by omega) (by omega)) dL_law_161 ?_
        refine lv_topi (fun x_16 e_x_16 => ?_)
        have e_x_16 : x_16 = xs (i + 1) := by rw [e_x_16]; rw [nI_clamp (by omega)]
        subst e_x_16
        refine lv_aload_n hx hb dL_law_162 rfl (lv_at hl 0 rfl) ?_
        refine lv_iload_n hx hb dL_law_163 rfl (lv_at hl 3 rfl) ?_
        refine lv_iconst (v := nI 2) hx hb dL_law_164 (by decide) ?_
        refine lv_iadd hx hb dL_law_165 ?_
        refine lv_topi (fun x_17 e_x_17 => ?_)
        have e_x_17 : x_17 = nI (i + 2) := by rw [e_x_17]; exact nI_add _ _
        subst e_x_17
        refine va_sld hx hb hX hbl hbA hS (vp_in_nI (show i + 2 < Ln by omega) (by omega)) dL_law_166 ?_
        refine lv_topi (fun x_18 e_x_18 => ?_)
        have e_x_18 : x_18 = xs (i + 2) := by rw [e_x_18]; rw [nI_clamp (by omega)]
        subst e_x_18
        have hPc := hP.sub (ws' := (cm qm cam C fm nm w d st tg hi mi go)) [12, 13, 14, 15, 16, 17] rfl
        have hDc := hD.sub (ws' := (cm qm cam C fm nm w d st tg hi mi go)) [12, 13, 14, 15, 16, 17] (by decide) rfl
        have hKc := hK.sub (tys' := (km cam)) [7, 8, 9, 10, 11] rfl
        have hFc := va_free (wc := (cm qm cam C fm nm w d st tg hi mi go)) hD hS hA [12, 13, 14, 15, 16, 17] rfl
        refine va_calli (va_runV (As := [.int (xs (i + 1)), .int (xs (i + 2))]) (rest := [.int rx]) ⟨hx, hb, hml, hown, hts⟩ (c_M_write l dC dI qm cam C fm nm w d st tg hi mi go L (xs (i + 1)) (xs (i + 2)) H.size hfm hok) (cwV 2 hts gL_law_X2_write rfl rfl rfl (by decide +kernel) ⟨Nat.le_of_ble_eq_true rfl, Nat.le_of_ble_eq_true rfl⟩) ⟨fun a U g mk q => by obtain ⟨q0, q1, qP, qK, qD⟩ := q; exact ⟨q0, q1, qP, va_K.moved (u := U) (U := U.calling g mk a) (Vm.Alike.refl U.vm) qK, qD⟩, va_recv hKc hPc (ci := 2) (q0 := 0) rfl rfl, fun U hU hW => ⟨rfl, by rw [hU], by rw [hU]; exact hPc, va_K.moved hW.alike hKc, hDc.weaken (fun _ _ _ _ => trivial)⟩⟩ rfl rfl hl.1 rfl (lv_room (Nat.le_of_ble_eq_true rfl)) dL_law_167 ⟨Nat.le_of_ble_eq_true rfl, Nat.le_of_ble_eq_true rfl⟩) hS (fun q _ h => hFc q h) hFc (fun r u t H1 locs ht hvm hw hB hz1 hk1 hS => ?_)
        obtain ⟨L1, w1, d1, st1, tg1, hi1, mi1, go1⟩ := u
        obtain ⟨f1, n1, hf1, hP1, hK1, hD1⟩ := hB
        rw [ht] at hP1
        have hw9 := hw
        obtain ⟨Lz_19, wz_19, dz_19, stz_19, tgz_19, hiz_19, miz_19, goz_19, fz_19, nz_19, hren9⟩ : ∃ Lz_19 wz_19 dz_19 stz_19 tgz_19 hiz_19 miz_19 goz_19 fz_19 nz_19, Lz_19 = L1 ∧ wz_19 = w1 ∧ dz_19 = d1 ∧ stz_19 = st1 ∧ tgz_19 = tg1 ∧ hiz_19 = hi1 ∧ miz_19 = mi1 ∧ goz_19 = go1 ∧ fz_19 = f1 ∧ nz_19 = n1 := ⟨_, _, _, _, _, _, _, _, _, _, rfl, rfl, rfl, rfl, rfl, rfl, rfl, rfl, rfl, rfl⟩
        obtain ⟨rfl, rfl, rfl, rfl, rfl, rfl, rfl, rfl, rfl, rfl⟩ := hren9
        have hfz_19 := hf1
        have hwz_19 := hw9
        obtain ⟨hP, hD⟩ := va_join (wr := (cx qx cax C Lz_14 fz_14 wz_14 dz_14 stz_14 tgz_14 hiz_14 miz_14 goz_14)) (w1 := (cm qm cam C fz_19 nz_19 wz_19 dz_19 stz_19 tgz_19 hiz_19 miz_19 goz_19)) hP hD [12, 13, 14, 15, 16, 17] [0, 1, 2, 3, 4, 5, 6, 7, 8, 9, 10, 11] rfl rfl (by decide) (by decide) hk1 hFc hP1 hD1
        generalize H1 = H at hP hS ⊢
        replace hP : va_P (dC, dI) vwCl ((cx qx cax C Lz_14 fz_14 wz_14 dz_14 stz_14 tgz_14 hiz_14 miz_14 goz_14) ++ (cm qm cam C fz_19 nz_19 wz_19 dz_19 stz_19 tgz_19 hiz_19 miz_19 goz_19)) H := hP
        replace hD : va_D A ((cx qx cax C Lz_14 fz_14 wz_14 dz_14 stz_14 tgz_14 hiz_14 miz_14 goz_14) ++ (cm qm cam C fz_19 nz_19 wz_19 dz_19 stz_19 tgz_19 hiz_19 miz_19 goz_19)) := hD
        have hok9 := ap_wr_ok hok hwz_14
        have heq9 := hwz_14.trans hwz_19.symm
        simp only [Prod.mk.injEq] at heq9
        obtain ⟨rfl, rfl, rfl, rfl, rfl, rfl, rfl, rfl, rfl⟩ := heq9
        refine lv_icmp_eq (tgt := 365) hx hb dL_law_170 (by decide) (fun c_170 => ?_) (fun c_170 => ?_)
        · skip
          refine lv_iinc (v := nI (i + 3)) (lv' := [(3, .int (nI (i + 3))), (0, .ref b), (1, .ref (qx 0)), (2, .ref (qm 0))]) hx hb dL_law_365 hl (k := 3) rfl (nI_add _ _) (by decide) rfl (fun ls hl => ?_)
          refine lv_goto (tgt := 28) hx hb dL_law_368 (by decide) ?_
          exact ih (i + 3) _ _ _ _ _ _ _ _ _ _ _ _ _ _ _ _ _ (by omega) hok9 hfz_14 hfz_19 hK hP hD hS _ (lv_sub hl [1, 2, 3, 0] rfl) (by omega)
        · skip
          exact absurd rfl c_170
      · skip
        refine lv_tableIn (tgt := 175) (off := 133) hx hb dL_law_42 (by decide) (by decide) (by decide) (by decide) ?_
        refine lv_aload_n hx hb dL_law_175 rfl (lv_at hl 1 rfl) ?_
        have hPc := hP.sub (ws' := (cx qx cax C L fx w d st tg hi mi go)) [0, 1, 2, 3, 4, 5, 6, 7, 8, 9, 10, 11] rfl
        have hDc := hD.sub (ws' := (cx qx cax C L fx w d st tg hi mi go)) [0, 1, 2, 3, 4, 5, 6, 7, 8, 9, 10, 11] (by decide) rfl
        have hKc := hK.sub (tys' := (kx cax)) [0, 1, 2, 3, 4, 5, 6] rfl
        have hFc := va_free (wc := (cx qx cax C L fx w d st tg hi mi go)) hD hS hA [0, 1, 2, 3, 4, 5, 6, 7, 8, 9, 10, 11] rfl
        refine va_calli (va_runV (As := []) (rest := []) ⟨hx, hb, hml, hown, hts⟩ (c_X_flush l dC dI qx cax C L fx w d st tg hi mi go  H.size hfx) (cwV 0 hts gL_law_X1_flush rfl rfl rfl (by decide +kernel) ⟨Nat.le_of_ble_eq_true rfl, Nat.le_of_ble_eq_true rfl⟩) ⟨fun a U g mk q => by obtain ⟨q0, q1, qP, qK, qD⟩ := q; exact ⟨q0, q1, qP, va_K.moved (u := U) (U := U.calling g mk a) (Vm.Alike.refl U.vm) qK, qD⟩, va_recv hKc hPc (ci := 1) (q0 := 0) rfl rfl, fun U hU hW => ⟨rfl, by rw [hU], by rw [hU]; exact hPc, va_K.moved hW.alike hKc, hDc.weaken (fun _ _ _ _ => trivial)⟩⟩ rfl rfl hl.1 rfl (lv_room (Nat.le_of_ble_eq_true rfl)) dL_law_176 ⟨Nat.le_of_ble_eq_true rfl, Nat.le_of_ble_eq_true rfl⟩) hS (fun q _ h => hFc q h) hFc (fun r u t H1 locs ht hvm hw hB hz1 hk1 hS => ?_)
        obtain ⟨L1, w1, d1, st1, tg1, hi1, mi1, go1⟩ := u
        obtain ⟨f1, hf1, hP1, hK1, hD1⟩ := hB
        rw [ht] at hP1
        have hw9 := hw
        obtain ⟨Lz_20, wz_20, dz_20, stz_20, tgz_20, hiz_20, miz_20, goz_20, fz_20, hren9⟩ : ∃ Lz_20 wz_20 dz_20 stz_20 tgz_20 hiz_20 miz_20 goz_20 fz_20, Lz_20 = L1 ∧ wz_20 = w1 ∧ dz_20 = d1 ∧ stz_20 = st1 ∧ tgz_20 = tg1 ∧ hiz_20 = hi1 ∧ miz_20 = mi1 ∧ goz_20 = go1 ∧ fz_20 = f1 := ⟨_, _, _, _, _, _, _, _, _, rfl, rfl, rfl, rfl, rfl, rfl, rfl, rfl, rfl⟩
        obtain ⟨rfl, rfl, rfl, rfl, rfl, rfl, rfl, rfl, rfl⟩ := hren9
        have hfz_20 := hf1
        have hwz_20 := hw9
        obtain ⟨hP, hD⟩ := va_join (wr := (cm qm cam C fm nm w d st tg hi mi go)) (w1 := (cx qx cax C Lz_20 fz_20 wz_20 dz_20 stz_20 tgz_20 hiz_20 miz_20 goz_20)) hP hD [0, 1, 2, 3, 4, 5, 6, 7, 8, 9, 10, 11] [12, 13, 14, 15, 16, 17] rfl rfl (by decide) (by decide) hk1 hFc hP1 hD1
        generalize H1 = H at hP hS ⊢
        replace hP := hP.sub (ws' := ((cx qx cax C Lz_20 fz_20 wz_20 dz_20 stz_20 tgz_20 hiz_20 miz_20 goz_20) ++ (cm qm cam C fm nm w d st tg hi mi go))) [6, 7, 8, 9, 10, 11, 12, 13, 14, 15, 16, 17, 0, 1, 2, 3, 4, 5] rfl
        replace hD := hD.sub (ws' := ((cx qx cax C Lz_20 fz_20 wz_20 dz_20 stz_20 tgz_20 hiz_20 miz_20 goz_20) ++ (cm qm cam C fm nm w d st tg hi mi go))) [6, 7, 8, 9, 10, 11, 12, 13, 14, 15, 16, 17, 0, 1, 2, 3, 4, 5] (by decide) rfl
        obtain ⟨rx, erx⟩ : ∃ z, z = r := ⟨_, rfl⟩
        rw [← erx] at hwz_20 ⊢
        clear erx
        refine lv_aload_n hx hb dL_law_179 rfl (lv_at hl 2 rfl) ?_
        have hPc := hP.sub (ws' := (cm qm cam C fm nm w d st tg hi mi go)) [12, 13, 14, 15, 16, 17] rfl
        have hDc := hD.sub (ws' := (cm qm cam C fm nm w d st tg hi mi go)) [12, 13, 14, 15, 16, 17] (by decide) rfl
        have hKc := hK.sub (tys' := (km cam)) [7, 8, 9, 10, 11] rfl
        have hFc := va_free (wc := (cm qm cam C fm nm w d st tg hi mi go)) hD hS hA [12, 13, 14, 15, 16, 17] rfl
        refine va_calli (va_runV (As := []) (rest := [.int rx]) ⟨hx, hb, hml, hown, hts⟩ (c_M_flush l dC dI qm cam C fm nm w d st tg hi mi go L  H.size hfm) (cwV 0 hts gL_law_X2_flush rfl rfl rfl (by decide +kernel) ⟨Nat.le_of_ble_eq_true rfl, Nat.le_of_ble_eq_true rfl⟩) ⟨fun a U g mk q => by obtain ⟨q0, q1, qP, qK, qD⟩ := q; exact ⟨q0, q1, qP, va_K.moved (u := U) (U := U.calling g mk a) (Vm.Alike.refl U.vm) qK, qD⟩, va_recv hKc hPc (ci := 2) (q0 := 0) rfl rfl, fun U hU hW => ⟨rfl, by rw [hU], by rw [hU]; exact hPc, va_K.moved hW.alike hKc, hDc.weaken (fun _ _ _ _ => trivial)⟩⟩ rfl rfl hl.1 rfl (lv_room (Nat.le_of_ble_eq_true rfl)) dL_law_180 ⟨Nat.le_of_ble_eq_true rfl, Nat.le_of_ble_eq_true rfl⟩) hS (fun q _ h => hFc q h) hFc (fun r u t H1 locs ht hvm hw hB hz1 hk1 hS => ?_)
        obtain ⟨L1, w1, d1, st1, tg1, hi1, mi1, go1⟩ := u
        obtain ⟨f1, n1, hf1, hP1, hK1, hD1⟩ := hB
        rw [ht] at hP1
        have hw9 := hw
        obtain ⟨Lz_21, wz_21, dz_21, stz_21, tgz_21, hiz_21, miz_21, goz_21, fz_21, nz_21, hren9⟩ : ∃ Lz_21 wz_21 dz_21 stz_21 tgz_21 hiz_21 miz_21 goz_21 fz_21 nz_21, Lz_21 = L1 ∧ wz_21 = w1 ∧ dz_21 = d1 ∧ stz_21 = st1 ∧ tgz_21 = tg1 ∧ hiz_21 = hi1 ∧ miz_21 = mi1 ∧ goz_21 = go1 ∧ fz_21 = f1 ∧ nz_21 = n1 := ⟨_, _, _, _, _, _, _, _, _, _, rfl, rfl, rfl, rfl, rfl, rfl, rfl, rfl, rfl, rfl⟩
        obtain ⟨rfl, rfl, rfl, rfl, rfl, rfl, rfl, rfl, rfl, rfl⟩ := hren9
        have hfz_21 := hf1
        have hwz_21 := hw9
        obtain ⟨hP, hD⟩ := va_join (wr := (cx qx cax C Lz_20 fz_20 wz_20 dz_20 stz_20 tgz_20 hiz_20 miz_20 goz_20)) (w1 := (cm qm cam C fz_21 nz_21 wz_21 dz_21 stz_21 tgz_21 hiz_21 miz_21 goz_21)) hP hD [12, 13, 14, 15, 16, 17] [0, 1, 2, 3, 4, 5, 6, 7, 8, 9, 10, 11] rfl rfl (by decide) (by decide) hk1 hFc hP1 hD1
        generalize H1 = H at hP hS ⊢
        replace hP : va_P (dC, dI) vwCl ((cx qx cax C Lz_20 fz_20 wz_20 dz_20 stz_20 tgz_20 hiz_20 miz_20 goz_20) ++ (cm qm cam C fz_21 nz_21 wz_21 dz_21 stz_21 tgz_21 hiz_21 miz_21 goz_21)) H := hP
        replace hD : va_D A ((cx qx cax C Lz_20 fz_20 wz_20 dz_20 stz_20 tgz_20 hiz_20 miz_20 goz_20) ++ (cm qm cam C fz_21 nz_21 wz_21 dz_21 stz_21 tgz_21 hiz_21 miz_21 goz_21)) := hD
        obtain ⟨era9, eua9⟩ := hwz_20
        obtain ⟨erb9, eub9⟩ := hwz_21
        cases eua9
        cases eub9
        have err9 : rx = r := era9.trans erb9.symm
        refine lv_icmp_eq (tgt := 365) hx hb dL_law_183 (by decide) (fun c_183 => ?_) (fun c_183 => ?_)
        · skip
          refine lv_iinc (v := nI (i + 3)) (lv' := [(3, .int (nI (i + 3))), (0, .ref b), (1, .ref (qx 0)), (2, .ref (qm 0))]) hx hb dL_law_365 hl (k := 3) rfl (nI_add _ _) (by decide) rfl (fun ls hl => ?_)
          refine lv_goto (tgt := 28) hx hb dL_law_368 (by decide) ?_
          exact ih (i + 3) _ _ _ _ _ _ _ _ _ _ _ _ _ _ _ _ _ (by omega) hok hfz_20 hfz_21 hK hP hD hS _ (lv_sub hl [1, 2, 3, 0] rfl) (by omega)
        · skip
          exact absurd err9 c_183
      · skip
        refine lv_tableIn (tgt := 188) (off := 146) hx hb dL_law_42 (by decide) (by decide) (by decide) (by decide) ?_
        refine lv_aload_n hx hb dL_law_188 rfl (lv_at hl 1 rfl) ?_
        refine lv_aload_n hx hb dL_law_189 rfl (lv_at hl 0 rfl) ?_
        refine lv_iload_n hx hb dL_law_190 rfl (lv_at hl 3 rfl) ?_
        refine lv_iconst (v := nI 1) hx hb dL_law_191 (by decide) ?_
        refine lv_iadd hx hb dL_law_192 ?_
        refine lv_topi (fun x_22 e_x_22 => ?_)
        have e_x_22 : x_22 = nI (i + 1) := by rw [e_x_22]; exact nI_add _ _
        subst e_x_22
        refine va_sld hx hb hX hbl hbA hS (vp_in_nI (show i + 1 < Ln by omega) (by omega)) dL_law_193 ?_
        refine lv_topi (fun x_23 e_x_23 => ?_)
        have e_x_23 : x_23 = xs (i + 1) := by rw [e_x_23]; rw [nI_clamp (by omega)]
        subst e_x_23
        have hPc := hP.sub (ws' := (cx qx cax C L fx w d st tg hi mi go)) [0, 1, 2, 3, 4, 5, 6, 7, 8, 9, 10, 11] rfl
        have hDc := hD.sub (ws' := (cx qx cax C L fx w d st tg hi mi go)) [0, 1, 2, 3, 4, 5, 6, 7, 8, 9, 10, 11] (by decide) rfl
        have hKc := hK.sub (tys' := (kx cax)) [0, 1, 2, 3, 4, 5, 6] rfl
        have hFc := va_free (wc := (cx qx cax C L fx w d st tg hi mi go)) hD hS hA [0, 1, 2, 3, 4, 5, 6, 7, 8, 9, 10, 11] rfl
        refine va_calli (va_runV (As := [.int (xs (i + 1))]) (rest := []) ⟨hx, hb, hml, hown, hts⟩ (c_X_whichList l dC dI qx cax C L fx w d st tg hi mi go (xs (i + 1)) H.size hfx hok.1 hz) (cwV 1 hts gL_law_X1_whichList rfl rfl rfl (by decide +kernel) ⟨Nat.le_of_ble_eq_true rfl, Nat.le_of_ble_eq_true rfl⟩) ⟨fun a U g mk q => by obtain ⟨q0, q1, qP, qK, qD⟩ := q; exact ⟨q0, q1, qP, va_K.moved (u := U) (U := U.calling g mk a) (Vm.Alike.refl U.vm) qK, qD⟩, va_recv hKc hPc (ci := 1) (q0 := 0) rfl rfl, fun U hU hW => ⟨rfl, by rw [hU], by rw [hU]; exact hPc, va_K.moved hW.alike hKc, hDc.weaken (fun _ _ _ _ => trivial)⟩⟩ rfl rfl hl.1 rfl (lv_room (Nat.le_of_ble_eq_true rfl)) dL_law_194 ⟨Nat.le_of_ble_eq_true rfl, Nat.le_of_ble_eq_true rfl⟩) hS (fun q _ h => hFc q h) hFc (fun r u t H1 locs ht hvm hw hB hz1 hk1 hS => ?_)
        obtain ⟨L1, w1, d1, st1, tg1, hi1, mi1, go1⟩ := u
        obtain ⟨f1, hf1, hP1, hK1, hD1⟩ := hB
        rw [ht] at hP1
        have hw9 := hw
        obtain ⟨Lz_24, wz_24, dz_24, stz_24, tgz_24, hiz_24, miz_24, goz_24, fz_24, hren9⟩ : ∃ Lz_24 wz_24 dz_24 stz_24 tgz_24 hiz_24 miz_24 goz_24 fz_24, Lz_24 = L1 ∧ wz_24 = w1 ∧ dz_24 = d1 ∧ stz_24 = st1 ∧ tgz_24 = tg1 ∧ hiz_24 = hi1 ∧ miz_24 = mi1 ∧ goz_24 = go1 ∧ fz_24 = f1 := ⟨_, _, _, _, _, _, _, _, _, rfl, rfl, rfl, rfl, rfl, rfl, rfl, rfl, rfl⟩
        obtain ⟨rfl, rfl, rfl, rfl, rfl, rfl, rfl, rfl, rfl⟩ := hren9
        have hfz_24 := hf1
        have hwz_24 := hw9
        obtain ⟨hP, hD⟩ := va_join (wr := (cm qm cam C fm nm w d st tg hi mi go)) (w1 := (cx qx cax C Lz_24 fz_24 wz_24 dz_24 stz_24 tgz_24 hiz_24 miz_24 goz_24)) hP hD [0, 1, 2, 3, 4, 5, 6, 7, 8, 9, 10, 11] [12, 13, 14, 15, 16, 17] rfl rfl (by decide) (by decide) hk1 hFc hP1 hD1
        generalize H1 = H at hP hS ⊢
        replace hP := hP.sub (ws' := ((cx qx cax C Lz_24 fz_24 wz_24 dz_24 stz_24 tgz_24 hiz_24 miz_24 goz_24) ++ (cm qm cam C fm nm w d st tg hi mi go))) [6, 7, 8, 9, 10, 11, 12, 13, 14, 15, 16, 17, 0, 1, 2, 3, 4, 5] rfl
        replace hD := hD.sub (ws' := ((cx qx cax C Lz_24 fz_24 wz_24 dz_24 stz_24 tgz_24 hiz_24 miz_24 goz_24) ++ (cm qm cam C fm nm w d st tg hi mi go))) [6, 7, 8, 9, 10, 11, 12, 13, 14, 15, 16, 17, 0, 1, 2, 3, 4, 5] (by decide) rfl
        obtain ⟨rx, erx⟩ : ∃ z, z = r := ⟨_, rfl⟩
        rw [← erx] at hwz_24 ⊢
        clear erx
        refine lv_aload_n hx hb dL_law_197 rfl (lv_at hl 2 rfl) ?_
        refine lv_aload_n hx hb dL_law_198 rfl (lv_at hl 0 rfl) ?_
        refine lv_iload_n hx hb dL_law_199 rfl (lv_at hl 3 rfl) ?_
        refine lv_iconst (v := nI 1) hx hb dL_law_200 (by decide) ?_
        refine lv_iadd hx hb dL_law_201 ?_
        refine lv_topi (fun x_25 e_x_25 => ?_)
        have e_x_25 : x_25 = nI (i + 1) := by rw [e_x_25]; exact nI_add _ _
        subst e_x_25
        refine va_sld hx hb hX hbl hbA hS (vp_in_nI (show i + 1 < Ln by omega) (by omega)) dL_law_202 ?_
        refine lv_topi (fun x_26 e_x_26 => ?_)
        have e_x_26 : x_26 = xs (i + 1) := by rw [e_x_26]; rw [nI_clamp (by omega)]
        subst e_x_26
        have hPc := hP.sub (ws' := (cm qm cam C fm nm w d st tg hi mi go)) [12, 13, 14, 15, 16, 17] rfl
        have hDc := hD.sub (ws' := (cm qm cam C fm nm w d st tg hi mi go)) [12, 13, 14, 15, 16, 17] (by decide) rfl
        have hKc := hK.sub (tys' := (km cam)) [7, 8, 9, 10, 11] rfl
        have hFc := va_free (wc := (cm qm cam C fm nm w d st tg hi mi go)) hD hS hA [12, 13, 14, 15, 16, 17] rfl
        refine va_calli (va_runV (As := [.int (xs (i + 1))]) (rest := [.int rx]) ⟨hx, hb, hml, hown, hts⟩ (c_M_whichList l dC dI qm cam C fm nm w d st tg hi mi go L (xs (i + 1)) H.size hfm hok.1 hz) (cwV 1 hts gL_law_X2_whichList rfl rfl rfl (by decide +kernel) ⟨Nat.le_of_ble_eq_true rfl, Nat.le_of_ble_eq_true rfl⟩) ⟨fun a U g mk q => by obtain ⟨q0, q1, qP, qK, qD⟩ := q; exact ⟨q0, q1, qP, va_K.moved (u := U) (U := U.calling g mk a) (Vm.Alike.refl U.vm) qK, qD⟩, va_recv hKc hPc (ci := 2) (q0 := 0) rfl rfl, fun U hU hW => ⟨rfl, by rw [hU], by rw [hU]; exact hPc, va_K.moved hW.alike hKc, hDc.weaken (fun _ _ _ _ => trivial)⟩⟩ rfl rfl hl.1 rfl (lv_room (Nat.le_of_ble_eq_true rfl)) dL_law_203 ⟨Nat.le_of_ble_eq_true rfl, Nat.le_of_ble_eq_true rfl⟩) hS (fun q _ h => hFc q h) hFc (fun r u t H1 locs ht hvm hw hB hz1 hk1 hS => ?_)
        obtain ⟨L1, w1, d1, st1, tg1, hi1, mi1, go1⟩ := u
        obtain ⟨f1, n1, hf1, hP1, hK1, hD1⟩ := hB
        rw [ht] at hP1
        have hw9 := hw
        obtain ⟨Lz_27, wz_27, dz_27, stz_27, tgz_27, hiz_27, miz_27, goz_27, fz_27, nz_27, hren9⟩ : ∃ Lz_27 wz_27 dz_27 stz_27 tgz_27 hiz_27 miz_27 goz_27 fz_27 nz_27, Lz_27 = L1 ∧ wz_27 = w1 ∧ dz_27 = d1 ∧ stz_27 = st1 ∧ tgz_27 = tg1 ∧ hiz_27 = hi1 ∧ miz_27 = mi1 ∧ goz_27 = go1 ∧ fz_27 = f1 ∧ nz_27 = n1 := ⟨_, _, _, _, _, _, _, _, _, _, rfl, rfl, rfl, rfl, rfl, rfl, rfl, rfl, rfl, rfl⟩
        obtain ⟨rfl, rfl, rfl, rfl, rfl, rfl, rfl, rfl, rfl, rfl⟩ := hren9
        have hfz_27 := hf1
        have hwz_27 := hw9
        obtain ⟨hP, hD⟩ := va_join (wr := (cx qx cax C Lz_24 fz_24 wz_24 dz_24 stz_24 tgz_24 hiz_24 miz_24 goz_24)) (w1 := (cm qm cam C fz_27 nz_27 wz_27 dz_27 stz_27 tgz_27 hiz_27 miz_27 goz_27)) hP hD [12, 13, 14, 15, 16, 17] [0, 1, 2, 3, 4, 5, 6, 7, 8, 9, 10, 11] rfl rfl (by decide) (by decide) hk1 hFc hP1 hD1
        generalize H1 = H at hP hS ⊢
        replace hP : va_P (dC, dI) vwCl ((cx qx cax C Lz_24 fz_24 wz_24 dz_24 stz_24 tgz_24 hiz_24 miz_24 goz_24) ++ (cm qm cam C fz_27 nz_27 wz_27 dz_27 stz_27 tgz_27 hiz_27 miz_27 goz_27)) H := hP
        replace hD : va_D A ((cx qx cax C Lz_24 fz_24 wz_24 dz_24 stz_24 tgz_24 hiz_24 miz_24 goz_24) ++ (cm qm cam C fz_27 nz_27 wz_27 dz_27 stz_27 tgz_27 hiz_27 miz_27 goz_27)) := hD
        obtain ⟨era9, eua9⟩ := hwz_24
        obtain ⟨erb9, eub9⟩ := hwz_27
        cases eua9
        cases eub9
        have err9 : rx = r := era9.trans erb9.symm
        refine lv_icmp_eq (tgt := 365) hx hb dL_law_206 (by decide) (fun c_206 => ?_) (fun c_206 => ?_)
        · skip
          refine lv_iinc (v := nI (i + 3)) (lv' := [(3, .int (nI (i + 3))), (0, .ref b), (1, .ref (qx 0)), (2, .ref (qm 0))]) hx hb dL_law_365 hl (k := 3) rfl (nI_add _ _) (by decide) rfl (fun ls hl => ?_)
          refine lv_goto (tgt := 28) hx hb dL_law_368 (by decide) ?_
          exact ih (i + 3) _ _ _ _ _ _ _ _ _ _ _ _ _ _ _ _ _ (by omega) hok hfz_24 hfz_27 hK hP hD hS _ (lv_sub hl [1, 2, 3, 0] rfl) (by omega)
        · skip
          exact absurd err9 c_206
      · skip
        refine lv_tableIn (tgt := 211) (off := 169) hx hb dL_law_42 (by decide) (by decide) (by decide) (by decide) ?_
        refine lv_aload_n hx hb dL_law_211 rfl (lv_at hl 1 rfl) ?_
        refine lv_aload_n hx hb dL_law_212 rfl (lv_at hl 0 rfl) ?_
        refine lv_iload_n hx hb dL_law_213 rfl (lv_at hl 3 rfl) ?_
        refine lv_iconst (v := nI 1) hx hb dL_law_214 (by decide) ?_
        refine lv_iadd hx hb dL_law_215 ?_
        refine lv_topi (fun x_28 e_x_28 => ?_)
        have e_x_28 : x_28 = nI (i + 1) := by rw [e_x_28]; exact nI_add _ _
        subst e_x_28
        refine va_sld hx hb hX hbl hbA hS (vp_in_nI (show i + 1 < Ln by omega) (by omega)) dL_law_216 ?_
        refine lv_topi (fun x_29 e_x_29 => ?_)
        have e_x_29 : x_29 = xs (i + 1) := by rw [e_x_29]; rw [nI_clamp (by omega)]
        subst e_x_29
        refine lv_aload_n hx hb dL_law_217 rfl (lv_at hl 0 rfl) ?_
        refine lv_iload_n hx hb dL_law_218 rfl (lv_at hl 3 rfl) ?_
        refine lv_iconst (v := nI 2) hx hb dL_law_219 (by decide) ?_
        refine lv_iadd hx hb dL_law_220 ?_
        refine lv_topi (fun x_30 e_x_30 => ?_)
        have e_x_30 : x_30 = nI (i + 2) := by rw [e_x_30]; exact nI_add _ _
        subst e_x_30
        refine va_sld hx hb hX hbl hbA hS (vp_in_nI (show i + 2 < Ln by omega) (by omega)) dL_law_221 ?_
        refine lv_topi (fun x_31 e_x_31 => ?_)
        have e_x_31 : x_31 = xs (i + 2) := by rw [e_x_31]; rw [nI_clamp (by omega)]
        subst e_x_31
        have hPc := hP.sub (ws' := (cx qx cax C L fx w d st tg hi mi go)) [0, 1, 2, 3, 4, 5, 6, 7, 8, 9, 10, 11] rfl
        have hDc := hD.sub (ws' := (cx qx cax C L fx w d st tg hi mi go)) [0, 1, 2, 3, 4, 5, 6, 7, 8, 9, 10, 11] (by decide) rfl
        have hKc := hK.sub (tys' := (kx cax)) [0, 1, 2, 3, 4, 5, 6] rfl
        have hFc := va_free (wc := (cx qx cax C L fx w d st tg hi mi go)) hD hS hA [0, 1, 2, 3, 4, 5, 6, 7, 8, 9, 10, 11] rfl
        refine va_calli (va_runV (As := [.int (xs (i + 1)), .int (xs (i + 2))]) (rest := []) ⟨hx, hb, hml, hown, hts⟩ (c_X_at l dC dI qx cax C L fx w d st tg hi mi go (xs (i + 1)) (xs (i + 2)) H.size hfx hok.1 hz) (cwV 2 hts gL_law_X1_at rfl rfl rfl (by decide +kernel) ⟨Nat.le_of_ble_eq_true rfl, Nat.le_of_ble_eq_true rfl⟩) ⟨fun a U g mk q => by obtain ⟨q0, q1, qP, qK, qD⟩ := q; exact ⟨q0, q1, qP, va_K.moved (u := U) (U := U.calling g mk a) (Vm.Alike.refl U.vm) qK, qD⟩, va_recv hKc hPc (ci := 1) (q0 := 0) rfl rfl, fun U hU hW => ⟨rfl, by rw [hU], by rw [hU]; exact hPc, va_K.moved hW.alike hKc, hDc.weaken (fun _ _ _ _ => trivial)⟩⟩ rfl rfl hl.1 rfl (lv_room (Nat.le_of_ble_eq_true rfl)) dL_law_222 ⟨Nat.le_of_ble_eq_true rfl, Nat.le_of_ble_eq_true rfl⟩) hS (fun q _ h => hFc q h) hFc (fun r u t H1 locs ht hvm hw hB hz1 hk1 hS => ?_)
        obtain ⟨L1, w1, d1, st1, tg1, hi1, mi1, go1⟩ := u
        obtain ⟨f1, hf1, hP1, hK1, hD1⟩ := hB
        rw [ht] at hP1
        have hw9 := hw
        obtain ⟨Lz_32, wz_32, dz_32, stz_32, tgz_32, hiz_32, miz_32, goz_32, fz_32, hren9⟩ : ∃ Lz_32 wz_32 dz_32 stz_32 tgz_32 hiz_32 miz_32 goz_32 fz_32, Lz_32 = L1 ∧ wz_32 = w1 ∧ dz_32 = d1 ∧ stz_32 = st1 ∧ tgz_32 = tg1 ∧ hiz_32 = hi1 ∧ miz_32 = mi1 ∧ goz_32 = go1 ∧ fz_32 = f1 := ⟨_, _, _, _, _, _, _, _, _, rfl, rfl, rfl, rfl, rfl, rfl, rfl, rfl, rfl⟩
        obtain ⟨rfl, rfl, rfl, rfl, rfl, rfl, rfl, rfl, rfl⟩ := hren9
        have hfz_32 := hf1
        have hwz_32 := hw9
        obtain ⟨hP, hD⟩ := va_join (wr := (cm qm cam C fm nm w d st tg hi mi go)) (w1 := (cx qx cax C Lz_32 fz_32 wz_32 dz_32 stz_32 tgz_32 hiz_32 miz_32 goz_32)) hP hD [0, 1, 2, 3, 4, 5, 6, 7, 8, 9, 10, 11] [12, 13, 14, 15, 16, 17] rfl rfl (by decide) (by decide) hk1 hFc hP1 hD1
        generalize H1 = H at hP hS ⊢
        replace hP := hP.sub (ws' := ((cx qx cax C Lz_32 fz_32 wz_32 dz_32 stz_32 tgz_32 hiz_32 miz_32 goz_32) ++ (cm qm cam C fm nm w d st tg hi mi go))) [6, 7, 8, 9, 10, 11, 12, 13, 14, 15, 16, 17, 0, 1, 2, 3, 4, 5] rfl
        replace hD := hD.sub (ws' := ((cx qx cax C Lz_32 fz_32 wz_32 dz_32 stz_32 tgz_32 hiz_32 miz_32 goz_32) ++ (cm qm cam C fm nm w d st tg hi mi go))) [6, 7, 8, 9, 10, 11, 12, 13, 14, 15, 16, 17, 0, 1, 2, 3, 4, 5] (by decide) rfl
        obtain ⟨rx, erx⟩ : ∃ z, z = r := ⟨_, rfl⟩
        rw [← erx] at hwz_32 ⊢
        clear erx
        refine lv_aload_n hx hb dL_law_225 rfl (lv_at hl 2 rfl) ?_
        refine lv_aload_n hx hb dL_law_226 rfl (lv_at hl 0 rfl) ?_
        refine lv_iload_n hx hb dL_law_227 rfl (lv_at hl 3 rfl) ?_
        refine lv_iconst (v := nI 1) hx hb dL_law_228 (by decide) ?_
        refine lv_iadd hx hb dL_law_229 ?_
        refine lv_topi (fun x_33 e_x_33 => ?_)
        have e_x_33 : x_33 = nI (i + 1) := by rw [e_x_33]; exact nI_add _ _
        subst e_x_33
        refine va_sld hx hb hX hbl hbA hS (vp_in_nI (show i + 1 < Ln by omega) (by omega)) dL_law_230 ?_
        refine lv_topi (fun x_34 e_x_34 => ?_)
        have e_x_34 : x_34 = xs (i + 1) := by rw [e_x_34]; rw [nI_clamp (by omega)]
        subst e_x_34
        refine lv_aload_n hx hb dL_law_231 rfl (lv_at hl 0 rfl) ?_
        refine lv_iload_n hx hb dL_law_232 rfl (lv_at hl 3 rfl) ?_
        refine lv_iconst (v := nI 2) hx hb dL_law_233 (by decide) ?_
        refine lv_iadd hx hb dL_law_234 ?_
        refine lv_topi (fun x_35 e_x_35 => ?_)
        have e_x_35 : x_35 = nI (i + 2) := by rw [e_x_35]; exact nI_add _ _
        subst e_x_35
        refine va_sld hx hb hX hbl hbA hS (vp_in_nI (show i + 2 < Ln by omega) (by omega)) dL_law_235 ?_
        refine lv_topi (fun x_36 e_x_36 => ?_)
        have e_x_36 : x_36 = xs (i + 2) := by rw [e_x_36]; rw [nI_clamp (by omega)]
        subst e_x_36
        have hPc := hP.sub (ws' := (cm qm cam C fm nm w d st tg hi mi go)) [12, 13, 14, 15, 16, 17] rfl
        have hDc := hD.sub (ws' := (cm qm cam C fm nm w d st tg hi mi go)) [12, 13, 14, 15, 16, 17] (by decide) rfl
        have hKc := hK.sub (tys' := (km cam)) [7, 8, 9, 10, 11] rfl
        have hFc := va_free (wc := (cm qm cam C fm nm w d st tg hi mi go)) hD hS hA [12, 13, 14, 15, 16, 17] rfl
        refine va_calli (va_runV (As := [.int (xs (i + 1)), .int (xs (i + 2))]) (rest := [.int rx]) ⟨hx, hb, hml, hown, hts⟩ (c_M_at l dC dI qm cam C fm nm w d st tg hi mi go L (xs (i + 1)) (xs (i + 2)) H.size hfm hok.1 hz) (cwV 2 hts gL_law_X2_at rfl rfl rfl (by decide +kernel) ⟨Nat.le_of_ble_eq_true rfl, Nat.le_of_ble_eq_true rfl⟩) ⟨fun a U g mk q => by obtain ⟨q0, q1, qP, qK, qD⟩ := q; exact ⟨q0, q1, qP, va_K.moved (u := U) (U := U.calling g mk a) (Vm.Alike.refl U.vm) qK, qD⟩, va_recv hKc hPc (ci := 2) (q0 := 0) rfl rfl, fun U hU hW => ⟨rfl, by rw [hU], by rw [hU]; exact hPc, va_K.moved hW.alike hKc, hDc.weaken (fun _ _ _ _ => trivial)⟩⟩ rfl rfl hl.1 rfl (lv_room (Nat.le_of_ble_eq_true rfl)) dL_law_236 ⟨Nat.le_of_ble_eq_true rfl, Nat.le_of_ble_eq_true rfl⟩) hS (fun q _ h => hFc q h) hFc (fun r u t H1 locs ht hvm hw hB hz1 hk1 hS => ?_)
        obtain ⟨L1, w1, d1, st1, tg1, hi1, mi1, go1⟩ := u
        obtain ⟨f1, n1, hf1, hP1, hK1, hD1⟩ := hB
        rw [ht] at hP1
        have hw9 := hw
        obtain ⟨Lz_37, wz_37, dz_37, stz_37, tgz_37, hiz_37, miz_37, goz_37, fz_37, nz_37, hren9⟩ : ∃ Lz_37 wz_37 dz_37 stz_37 tgz_37 hiz_37 miz_37 goz_37 fz_37 nz_37, Lz_37 = L1 ∧ wz_37 = w1 ∧ dz_37 = d1 ∧ stz_37 = st1 ∧ tgz_37 = tg1 ∧ hiz_37 = hi1 ∧ miz_37 = mi1 ∧ goz_37 = go1 ∧ fz_37 = f1 ∧ nz_37 = n1 := ⟨_, _, _, _, _, _, _, _, _, _, rfl, rfl, rfl, rfl, rfl, rfl, rfl, rfl, rfl, rfl⟩
        obtain ⟨rfl, rfl, rfl, rfl, rfl, rfl, rfl, rfl, rfl, rfl⟩ := hren9
        have hfz_37 := hf1
        have hwz_37 := hw9
        obtain ⟨hP, hD⟩ := va_join (wr := (cx qx cax C Lz_32 fz_32 wz_32 dz_32 stz_32 tgz_32 hiz_32 miz_32 goz_32)) (w1 := (cm qm cam C fz_37 nz_37 wz_37 dz_37 stz_37 tgz_37 hiz_37 miz_37 goz_37)) hP hD [12, 13, 14, 15, 16, 17] [0, 1, 2, 3, 4, 5, 6, 7, 8, 9, 10, 11] rfl rfl (by decide) (by decide) hk1 hFc hP1 hD1
        generalize H1 = H at hP hS ⊢
        replace hP : va_P (dC, dI) vwCl ((cx qx cax C Lz_32 fz_32 wz_32 dz_32 stz_32 tgz_32 hiz_32 miz_32 goz_32) ++ (cm qm cam C fz_37 nz_37 wz_37 dz_37 stz_37 tgz_37 hiz_37 miz_37 goz_37)) H := hP
        replace hD : va_D A ((cx qx cax C Lz_32 fz_32 wz_32 dz_32 stz_32 tgz_32 hiz_32 miz_32 goz_32) ++ (cm qm cam C fz_37 nz_37 wz_37 dz_37 stz_37 tgz_37 hiz_37 miz_37 goz_37)) := hD
        obtain ⟨era9, eua9⟩ := hwz_32
        obtain ⟨erb9, eub9⟩ := hwz_37
        cases eua9
        cases eub9
        have err9 : rx = r := era9.trans erb9.symm
        refine lv_icmp_eq (tgt := 365) hx hb dL_law_239 (by decide) (fun c_239 => ?_) (fun c_239 => ?_)
        · skip
          refine lv_iinc (v := nI (i + 3)) (lv' := [(3, .int (nI (i + 3))), (0, .ref b), (1, .ref (qx 0)), (2, .ref (qm 0))]) hx hb dL_law_365 hl (k := 3) rfl (nI_add _ _) (by decide) rfl (fun ls hl => ?_)
          refine lv_goto (tgt := 28) hx hb dL_law_368 (by decide) ?_
          exact ih (i + 3) _ _ _ _ _ _ _ _ _ _ _ _ _ _ _ _ _ (by omega) hok hfz_32 hfz_37 hK hP hD hS _ (lv_sub hl [1, 2, 3, 0] rfl) (by omega)
        · skip
          exact absurd err9 c_239
      · skip
        refine lv_tableIn (tgt := 244) (off := 202) hx hb dL_law_42 (by decide) (by decide) (by decide) (by decide) ?_
        refine lv_aload_n hx hb dL_law_244 rfl (lv_at hl 1 rfl) ?_
        refine lv_aload_n hx hb dL_law_245 rfl (lv_at hl 0 rfl) ?_
        refine lv_iload_n hx hb dL_law_246 rfl (lv_at hl 3 rfl) ?_
        refine lv_iconst (v := nI 1) hx hb dL_law_247 (by decide) ?_
        refine lv_iadd hx hb dL_law_248 ?_
        refine lv_topi (fun x_38 e_x_38 => ?_)
        have e_x_38 : x_38 = nI (i + 1) := by rw [e_x_38]; exact nI_add _ _
        subst e_x_38
        refine va_sld hx hb hX hbl hbA hS (vp_in_nI (show i + 1 < Ln by omega) (by omega)) dL_law_249 ?_
        refine lv_topi (fun x_39 e_x_39 => ?_)
        have e_x_39 : x_39 = xs (i + 1) := by rw [e_x_39]; rw [nI_clamp (by omega)]
        subst e_x_39
        have hPc := hP.sub (ws' := (cx qx cax C L fx w d st tg hi mi go)) [0, 1, 2, 3, 4, 5, 6, 7, 8, 9, 10, 11] rfl
        have hDc := hD.sub (ws' := (cx qx cax C L fx w d st tg hi mi go)) [0, 1, 2, 3, 4, 5, 6, 7, 8, 9, 10, 11] (by decide) rfl
        have hKc := hK.sub (tys' := (kx cax)) [0, 1, 2, 3, 4, 5, 6] rfl
        have hFc := va_free (wc := (cx qx cax C L fx w d st tg hi mi go)) hD hS hA [0, 1, 2, 3, 4, 5, 6, 7, 8, 9, 10, 11] rfl
        refine va_calli (va_runV (As := [.int (xs (i + 1))]) (rest := []) ⟨hx, hb, hml, hown, hts⟩ (c_X_length l dC dI qx cax C L fx w d st tg hi mi go (xs (i + 1)) H.size hfx) (cwV 1 hts gL_law_X1_length rfl rfl rfl (by decide +kernel) ⟨Nat.le_of_ble_eq_true rfl, Nat.le_of_ble_eq_true rfl⟩) ⟨fun a U g mk q => by obtain ⟨q0, q1, qP, qK, qD⟩ := q; exact ⟨q0, q1, qP, va_K.moved (u := U) (U := U.calling g mk a) (Vm.Alike.refl U.vm) qK, qD⟩, va_recv hKc hPc (ci := 1) (q0 := 0) rfl rfl, fun U hU hW => ⟨rfl, by rw [hU], by rw [hU]; exact hPc, va_K.moved hW.alike hKc, hDc.weaken (fun _ _ _ _ => trivial)⟩⟩ rfl rfl hl.1 rfl (lv_room (Nat.le_of_ble_eq_true rfl)) dL_law_250 ⟨Nat.le_of_ble_eq_true rfl, Nat.le_of_ble_eq_true rfl⟩) hS (fun q _ h => hFc q h) hFc (fun r u t H1 locs ht hvm hw hB hz1 hk1 hS => ?_)
        obtain ⟨L1, w1, d1, st1, tg1, hi1, mi1, go1⟩ := u
        obtain ⟨f1, hf1, hP1, hK1, hD1⟩ := hB
        rw [ht] at hP1
        have hw9 := hw
        obtain ⟨Lz_40, wz_40, dz_40, stz_40, tgz_40, hiz_40, miz_40, goz_40, fz_40, hren9⟩ : ∃ Lz_40 wz_40 dz_40 stz_40 tgz_40 hiz_40 miz_40 goz_40 fz_40, Lz_40 = L1 ∧ wz_40 = w1 ∧ dz_40 = d1 ∧ stz_40 = st1 ∧ tgz_40 = tg1 ∧ hiz_40 = hi1 ∧ miz_40 = mi1 ∧ goz_40 = go1 ∧ fz_40 = f1 := ⟨_, _, _, _, _, _, _, _, _, rfl, rfl, rfl, rfl, rfl, rfl, rfl, rfl, rfl⟩
        obtain ⟨rfl, rfl, rfl, rfl, rfl, rfl, rfl, rfl, rfl⟩ := hren9
        have hfz_40 := hf1
        have hwz_40 := hw9
        obtain ⟨hP, hD⟩ := va_join (wr := (cm qm cam C fm nm w d st tg hi mi go)) (w1 := (cx qx cax C Lz_40 fz_40 wz_40 dz_40 stz_40 tgz_40 hiz_40 miz_40 goz_40)) hP hD [0, 1, 2, 3, 4, 5, 6, 7, 8, 9, 10, 11] [12, 13, 14, 15, 16, 17] rfl rfl (by decide) (by decide) hk1 hFc hP1 hD1
        generalize H1 = H at hP hS ⊢
        replace hP := hP.sub (ws' := ((cx qx cax C Lz_40 fz_40 wz_40 dz_40 stz_40 tgz_40 hiz_40 miz_40 goz_40) ++ (cm qm cam C fm nm w d st tg hi mi go))) [6, 7, 8, 9, 10, 11, 12, 13, 14, 15, 16, 17, 0, 1, 2, 3, 4, 5] rfl
        replace hD := hD.sub (ws' := ((cx qx cax C Lz_40 fz_40 wz_40 dz_40 stz_40 tgz_40 hiz_40 miz_40 goz_40) ++ (cm qm cam C fm nm w d st tg hi mi go))) [6, 7, 8, 9, 10, 11, 12, 13, 14, 15, 16, 17, 0, 1, 2, 3, 4, 5] (by decide) rfl
        obtain ⟨rx, erx⟩ : ∃ z, z = r := ⟨_, rfl⟩
        rw [← erx] at hwz_40 ⊢
        clear erx
        refine lv_aload_n hx hb dL_law_253 rfl (lv_at hl 2 rfl) ?_
        refine lv_aload_n hx hb dL_law_254 rfl (lv_at hl 0 rfl) ?_
        refine lv_iload_n hx hb dL_law_255 rfl (lv_at hl 3 rfl) ?_
        refine lv_iconst (v := nI 1) hx hb dL_law_256 (by decide) ?_
        refine lv_iadd hx hb dL_law_257 ?_
        refine lv_topi (fun x_41 e_x_41 => ?_)
        have e_x_41 : x_41 = nI (i + 1) := by rw [e_x_41]; exact nI_add _ _
        subst e_x_41
        refine va_sld hx hb hX hbl hbA hS (vp_in_nI (show i + 1 < Ln by omega) (by omega)) dL_law_258 ?_
        refine lv_topi (fun x_42 e_x_42 => ?_)
        have e_x_42 : x_42 = xs (i + 1) := by rw [e_x_42]; rw [nI_clamp (by omega)]
        subst e_x_42
        have hPc := hP.sub (ws' := (cm qm cam C fm nm w d st tg hi mi go)) [12, 13, 14, 15, 16, 17] rfl
        have hDc := hD.sub (ws' := (cm qm cam C fm nm w d st tg hi mi go)) [12, 13, 14, 15, 16, 17] (by decide) rfl
        have hKc := hK.sub (tys' := (km cam)) [7, 8, 9, 10, 11] rfl
        have hFc := va_free (wc := (cm qm cam C fm nm w d st tg hi mi go)) hD hS hA [12, 13, 14, 15, 16, 17] rfl
        refine va_calli (va_runV (As := [.int (xs (i + 1))]) (rest := [.int rx]) ⟨hx, hb, hml, hown, hts⟩ (c_M_length l dC dI qm cam C fm nm w d st tg hi mi go L (xs (i + 1)) H.size hfm) (cwV 1 hts gL_law_X2_length rfl rfl rfl (by decide +kernel) ⟨Nat.le_of_ble_eq_true rfl, Nat.le_of_ble_eq_true rfl⟩) ⟨fun a U g mk q => by obtain ⟨q0, q1, qP, qK, qD⟩ := q; exact ⟨q0, q1, qP, va_K.moved (u := U) (U := U.calling g mk a) (Vm.Alike.refl U.vm) qK, qD⟩, va_recv hKc hPc (ci := 2) (q0 := 0) rfl rfl, fun U hU hW => ⟨rfl, by rw [hU], by rw [hU]; exact hPc, va_K.moved hW.alike hKc, hDc.weaken (fun _ _ _ _ => trivial)⟩⟩ rfl rfl hl.1 rfl (lv_room (Nat.le_of_ble_eq_true rfl)) dL_law_259 ⟨Nat.le_of_ble_eq_true rfl, Nat.le_of_ble_eq_true rfl⟩) hS (fun q _ h => hFc q h) hFc (fun r u t H1 locs ht hvm hw hB hz1 hk1 hS => ?_)
        obtain ⟨L1, w1, d1, st1, tg1, hi1, mi1, go1⟩ := u
        obtain ⟨f1, n1, hf1, hP1, hK1, hD1⟩ := hB
        rw [ht] at hP1
        have hw9 := hw
        obtain ⟨Lz_43, wz_43, dz_43, stz_43, tgz_43, hiz_43, miz_43, goz_43, fz_43, nz_43, hren9⟩ : ∃ Lz_43 wz_43 dz_43 stz_43 tgz_43 hiz_43 miz_43 goz_43 fz_43 nz_43, Lz_43 = L1 ∧ wz_43 = w1 ∧ dz_43 = d1 ∧ stz_43 = st1 ∧ tgz_43 = tg1 ∧ hiz_43 = hi1 ∧ miz_43 = mi1 ∧ goz_43 = go1 ∧ fz_43 = f1 ∧ nz_43 = n1 := ⟨_, _, _, _, _, _, _, _, _, _, rfl, rfl, rfl, rfl, rfl, rfl, rfl, rfl, rfl, rfl⟩
        obtain ⟨rfl, rfl, rfl, rfl, rfl, rfl, rfl, rfl, rfl, rfl⟩ := hren9
        have hfz_43 := hf1
        have hwz_43 := hw9
        obtain ⟨hP, hD⟩ := va_join (wr := (cx qx cax C Lz_40 fz_40 wz_40 dz_40 stz_40 tgz_40 hiz_40 miz_40 goz_40)) (w1 := (cm qm cam C fz_43 nz_43 wz_43 dz_43 stz_43 tgz_43 hiz_43 miz_43 goz_43)) hP hD [12, 13, 14, 15, 16, 17] [0, 1, 2, 3, 4, 5, 6, 7, 8, 9, 10, 11] rfl rfl (by decide) (by decide) hk1 hFc hP1 hD1
        generalize H1 = H at hP hS ⊢
        replace hP : va_P (dC, dI) vwCl ((cx qx cax C Lz_40 fz_40 wz_40 dz_40 stz_40 tgz_40 hiz_40 miz_40 goz_40) ++ (cm qm cam C fz_43 nz_43 wz_43 dz_43 stz_43 tgz_43 hiz_43 miz_43 goz_43)) H := hP
        replace hD : va_D A ((cx qx cax C Lz_40 fz_40 wz_40 dz_40 stz_40 tgz_40 hiz_40 miz_40 goz_40) ++ (cm qm cam C fz_43 nz_43 wz_43 dz_43 stz_43 tgz_43 hiz_43 miz_43 goz_43)) := hD
        obtain ⟨era9, eua9⟩ := hwz_40
        obtain ⟨erb9, eub9⟩ := hwz_43
        cases eua9
        cases eub9
        have err9 : rx = r := era9.trans erb9.symm
        refine lv_icmp_eq (tgt := 365) hx hb dL_law_262 (by decide) (fun c_262 => ?_) (fun c_262 => ?_)
        · skip
          refine lv_iinc (v := nI (i + 3)) (lv' := [(3, .int (nI (i + 3))), (0, .ref b), (1, .ref (qx 0)), (2, .ref (qm 0))]) hx hb dL_law_365 hl (k := 3) rfl (nI_add _ _) (by decide) rfl (fun ls hl => ?_)
          refine lv_goto (tgt := 28) hx hb dL_law_368 (by decide) ?_
          exact ih (i + 3) _ _ _ _ _ _ _ _ _ _ _ _ _ _ _ _ _ (by omega) hok hfz_40 hfz_43 hK hP hD hS _ (lv_sub hl [1, 2, 3, 0] rfl) (by omega)
        · skip
          exact absurd err9 c_262
      · skip
        refine lv_tableIn (tgt := 267) (off := 225) hx hb dL_law_42 (by decide) (by decide) (by decide) (by decide) ?_
        refine lv_aload_n hx hb dL_law_267 rfl (lv_at hl 1 rfl) ?_
        have hPc := hP.sub (ws' := (cx qx cax C L fx w d st tg hi mi go)) [0, 1, 2, 3, 4, 5, 6, 7, 8, 9, 10, 11] rfl
        have hDc := hD.sub (ws' := (cx qx cax C L fx w d st tg hi mi go)) [0, 1, 2, 3, 4, 5, 6, 7, 8, 9, 10, 11] (by decide) rfl
        have hKc := hK.sub (tys' := (kx cax)) [0, 1, 2, 3, 4, 5, 6] rfl
        have hFc := va_free (wc := (cx qx cax C L fx w d st tg hi mi go)) hD hS hA [0, 1, 2, 3, 4, 5, 6, 7, 8, 9, 10, 11] rfl
        refine va_calli (va_runV (As := []) (rest := []) ⟨hx, hb, hml, hown, hts⟩ (c_X_target l dC dI qx cax C L fx w d st tg hi mi go  H.size hfx) (cwV 0 hts gL_law_X1_target rfl rfl rfl (by decide +kernel) ⟨Nat.le_of_ble_eq_true rfl, Nat.le_of_ble_eq_true rfl⟩) ⟨fun a U g mk q => by obtain ⟨q0, q1, qP, qK, qD⟩ := q; exact ⟨q0, q1, qP, va_K.moved (u := U) (U := U.calling g mk a) (Vm.Alike.refl U.vm) qK, qD⟩, va_recv hKc hPc (ci := 1) (q0 := 0) rfl rfl, fun U hU hW => ⟨rfl, by rw [hU], by rw [hU]; exact hPc, va_K.moved hW.alike hKc, hDc.weaken (fun _ _ _ _ => trivial)⟩⟩ rfl rfl hl.1 rfl (lv_room (Nat.le_of_ble_eq_true rfl)) dL_law_268 ⟨Nat.le_of_ble_eq_true rfl, Nat.le_of_ble_eq_true rfl⟩) hS (fun q _ h => hFc q h) hFc (fun r u t H1 locs ht hvm hw hB hz1 hk1 hS => ?_)
        obtain ⟨L1, w1, d1, st1, tg1, hi1, mi1, go1⟩ := u
        obtain ⟨f1, hf1, hP1, hK1, hD1⟩ := hB
        rw [ht] at hP1
        have hw9 := hw
        obtain ⟨Lz_44, wz_44, dz_44, stz_44, tgz_44, hiz_44, miz_44, goz_44, fz_44, hren9⟩ : ∃ Lz_44 wz_44 dz_44 stz_44 tgz_44 hiz_44 miz_44 goz_44 fz_44, Lz_44 = L1 ∧ wz_44 = w1 ∧ dz_44 = d1 ∧ stz_44 = st1 ∧ tgz_44 = tg1 ∧ hiz_44 = hi1 ∧ miz_44 = mi1 ∧ goz_44 = go1 ∧ fz_44 = f1 := ⟨_, _, _, _, _, _, _, _, _, rfl, rfl, rfl, rfl, rfl, rfl, rfl, rfl, rfl⟩
        obtain ⟨rfl, rfl, rfl, rfl, rfl, rfl, rfl, rfl, rfl⟩ := hren9
        have hfz_44 := hf1
        have hwz_44 := hw9
        obtain ⟨hP, hD⟩ := va_join (wr := (cm qm cam C fm nm w d st tg hi mi go)) (w1 := (cx qx cax C Lz_44 fz_44 wz_44 dz_44 stz_44 tgz_44 hiz_44 miz_44 goz_44)) hP hD [0, 1, 2, 3, 4, 5, 6, 7, 8, 9, 10, 11] [12, 13, 14, 15, 16, 17] rfl rfl (by decide) (by decide) hk1 hFc hP1 hD1
        generalize H1 = H at hP hS ⊢
        replace hP := hP.sub (ws' := ((cx qx cax C Lz_44 fz_44 wz_44 dz_44 stz_44 tgz_44 hiz_44 miz_44 goz_44) ++ (cm qm cam C fm nm w d st tg hi mi go))) [6, 7, 8, 9, 10, 11, 12, 13, 14, 15, 16, 17, 0, 1, 2, 3, 4, 5] rfl
        replace hD := hD.sub (ws' := ((cx qx cax C Lz_44 fz_44 wz_44 dz_44 stz_44 tgz_44 hiz_44 miz_44 goz_44) ++ (cm qm cam C fm nm w d st tg hi mi go))) [6, 7, 8, 9, 10, 11, 12, 13, 14, 15, 16, 17, 0, 1, 2, 3, 4, 5] (by decide) rfl
        obtain ⟨rx, erx⟩ : ∃ z, z = r := ⟨_, rfl⟩
        rw [← erx] at hwz_44 ⊢
        clear erx
        refine lv_aload_n hx hb dL_law_271 rfl (lv_at hl 2 rfl) ?_
        have hPc := hP.sub (ws' := (cm qm cam C fm nm w d st tg hi mi go)) [12, 13, 14, 15, 16, 17] rfl
        have hDc := hD.sub (ws' := (cm qm cam C fm nm w d st tg hi mi go)) [12, 13, 14, 15, 16, 17] (by decide) rfl
        have hKc := hK.sub (tys' := (km cam)) [7, 8, 9, 10, 11] rfl
        have hFc := va_free (wc := (cm qm cam C fm nm w d st tg hi mi go)) hD hS hA [12, 13, 14, 15, 16, 17] rfl
        refine va_calli (va_runV (As := []) (rest := [.int rx]) ⟨hx, hb, hml, hown, hts⟩ (c_M_target l dC dI qm cam C fm nm w d st tg hi mi go L  H.size hfm) (cwV 0 hts gL_law_X2_target rfl rfl rfl (by decide +kernel) ⟨Nat.le_of_ble_eq_true rfl, Nat.le_of_ble_eq_true rfl⟩) ⟨fun a U g mk q => by obtain ⟨q0, q1, qP, qK, qD⟩ := q; exact ⟨q0, q1, qP, va_K.moved (u := U) (U := U.calling g mk a) (Vm.Alike.refl U.vm) qK, qD⟩, va_recv hKc hPc (ci := 2) (q0 := 0) rfl rfl, fun U hU hW => ⟨rfl, by rw [hU], by rw [hU]; exact hPc, va_K.moved hW.alike hKc, hDc.weaken (fun _ _ _ _ => trivial)⟩⟩ rfl rfl hl.1 rfl (lv_room (Nat.le_of_ble_eq_true rfl)) dL_law_272 ⟨Nat.le_of_ble_eq_true rfl, Nat.le_of_ble_eq_true rfl⟩) hS (fun q _ h => hFc q h) hFc (fun r u t H1 locs ht hvm hw hB hz1 hk1 hS => ?_)
        obtain ⟨L1, w1, d1, st1, tg1, hi1, mi1, go1⟩ := u
        obtain ⟨f1, n1, hf1, hP1, hK1, hD1⟩ := hB
        rw [ht] at hP1
        have hw9 := hw
        obtain ⟨Lz_45, wz_45, dz_45, stz_45, tgz_45, hiz_45, miz_45, goz_45, fz_45, nz_45, hren9⟩ : ∃ Lz_45 wz_45 dz_45 stz_45 tgz_45 hiz_45 miz_45 goz_45 fz_45 nz_45, Lz_45 = L1 ∧ wz_45 = w1 ∧ dz_45 = d1 ∧ stz_45 = st1 ∧ tgz_45 = tg1 ∧ hiz_45 = hi1 ∧ miz_45 = mi1 ∧ goz_45 = go1 ∧ fz_45 = f1 ∧ nz_45 = n1 := ⟨_, _, _, _, _, _, _, _, _, _, rfl, rfl, rfl, rfl, rfl, rfl, rfl, rfl, rfl, rfl⟩
        obtain ⟨rfl, rfl, rfl, rfl, rfl, rfl, rfl, rfl, rfl, rfl⟩ := hren9
        have hfz_45 := hf1
        have hwz_45 := hw9
        obtain ⟨hP, hD⟩ := va_join (wr := (cx qx cax C Lz_44 fz_44 wz_44 dz_44 stz_44 tgz_44 hiz_44 miz_44 goz_44)) (w1 := (cm qm cam C fz_45 nz_45 wz_45 dz_45 stz_45 tgz_45 hiz_45 miz_45 goz_45)) hP hD [12, 13, 14, 15, 16, 17] [0, 1, 2, 3, 4, 5, 6, 7, 8, 9, 10, 11] rfl rfl (by decide) (by decide) hk1 hFc hP1 hD1
        generalize H1 = H at hP hS ⊢
        replace hP : va_P (dC, dI) vwCl ((cx qx cax C Lz_44 fz_44 wz_44 dz_44 stz_44 tgz_44 hiz_44 miz_44 goz_44) ++ (cm qm cam C fz_45 nz_45 wz_45 dz_45 stz_45 tgz_45 hiz_45 miz_45 goz_45)) H := hP
        replace hD : va_D A ((cx qx cax C Lz_44 fz_44 wz_44 dz_44 stz_44 tgz_44 hiz_44 miz_44 goz_44) ++ (cm qm cam C fz_45 nz_45 wz_45 dz_45 stz_45 tgz_45 hiz_45 miz_45 goz_45)) := hD
        obtain ⟨era9, eua9⟩ := hwz_44
        obtain ⟨erb9, eub9⟩ := hwz_45
        cases eua9
        cases eub9
        have err9 : rx = r := era9.trans erb9.symm
        refine lv_icmp_eq (tgt := 365) hx hb dL_law_275 (by decide) (fun c_275 => ?_) (fun c_275 => ?_)
        · skip
          refine lv_iinc (v := nI (i + 3)) (lv' := [(3, .int (nI (i + 3))), (0, .ref b), (1, .ref (qx 0)), (2, .ref (qm 0))]) hx hb dL_law_365 hl (k := 3) rfl (nI_add _ _) (by decide) rfl (fun ls hl => ?_)
          refine lv_goto (tgt := 28) hx hb dL_law_368 (by decide) ?_
          exact ih (i + 3) _ _ _ _ _ _ _ _ _ _ _ _ _ _ _ _ _ (by omega) hok hfz_44 hfz_45 hK hP hD hS _ (lv_sub hl [1, 2, 3, 0] rfl) (by omega)
        · skip
          exact absurd err9 c_275
      · skip
        refine lv_tableIn (tgt := 280) (off := 238) hx hb dL_law_42 (by decide) (by decide) (by decide) (by decide) ?_
        refine lv_aload_n hx hb dL_law_280 rfl (lv_at hl 1 rfl) ?_
        have hPc := hP.sub (ws' := (cx qx cax C L fx w d st tg hi mi go)) [0, 1, 2, 3, 4, 5, 6, 7, 8, 9, 10, 11] rfl
        have hDc := hD.sub (ws' := (cx qx cax C L fx w d st tg hi mi go)) [0, 1, 2, 3, 4, 5, 6, 7, 8, 9, 10, 11] (by decide) rfl
        have hKc := hK.sub (tys' := (kx cax)) [0, 1, 2, 3, 4, 5, 6] rfl
        have hFc := va_free (wc := (cx qx cax C L fx w d st tg hi mi go)) hD hS hA [0, 1, 2, 3, 4, 5, 6, 7, 8, 9, 10, 11] rfl
        refine va_calli (va_runV (As := []) (rest := []) ⟨hx, hb, hml, hown, hts⟩ (c_X_hits l dC dI qx cax C L fx w d st tg hi mi go  H.size hfx) (cwV 0 hts gL_law_X1_hits rfl rfl rfl (by decide +kernel) ⟨Nat.le_of_ble_eq_true rfl, Nat.le_of_ble_eq_true rfl⟩) ⟨fun a U g mk q => by obtain ⟨q0, q1, qP, qK, qD⟩ := q; exact ⟨q0, q1, qP, va_K.moved (u := U) (U := U.calling g mk a) (Vm.Alike.refl U.vm) qK, qD⟩, va_recv hKc hPc (ci := 1) (q0 := 0) rfl rfl, fun U hU hW => ⟨rfl, by rw [hU], by rw [hU]; exact hPc, va_K.moved hW.alike hKc, hDc.weaken (fun _ _ _ _ => trivial)⟩⟩ rfl rfl hl.1 rfl (lv_room (Nat.le_of_ble_eq_true rfl)) dL_law_281 ⟨Nat.le_of_ble_eq_true rfl, Nat.le_of_ble_eq_true rfl⟩) hS (fun q _ h => hFc q h) hFc (fun r u t H1 locs ht hvm hw hB hz1 hk1 hS => ?_)
        obtain ⟨L1, w1, d1, st1, tg1, hi1, mi1, go1⟩ := u
        obtain ⟨f1, hf1, hP1, hK1, hD1⟩ := hB
        rw [ht] at hP1
        have hw9 := hw
        obtain ⟨Lz_46, wz_46, dz_46, stz_46, tgz_46, hiz_46, miz_46, goz_46, fz_46, hren9⟩ : ∃ Lz_46 wz_46 dz_46 stz_46 tgz_46 hiz_46 miz_46 goz_46 fz_46, Lz_46 = L1 ∧ wz_46 = w1 ∧ dz_46 = d1 ∧ stz_46 = st1 ∧ tgz_46 = tg1 ∧ hiz_46 = hi1 ∧ miz_46 = mi1 ∧ goz_46 = go1 ∧ fz_46 = f1 := ⟨_, _, _, _, _, _, _, _, _, rfl, rfl, rfl, rfl, rfl, rfl, rfl, rfl, rfl⟩
        obtain ⟨rfl, rfl, rfl, rfl, rfl, rfl, rfl, rfl, rfl⟩ := hren9
        have hfz_46 := hf1
        have hwz_46 := hw9
        obtain ⟨hP, hD⟩ := va_join (wr := (cm qm cam C fm nm w d st tg hi mi go)) (w1 := (cx qx cax C Lz_46 fz_46 wz_46 dz_46 stz_46 tgz_46 hiz_46 miz_46 goz_46)) hP hD [0, 1, 2, 3, 4, 5, 6, 7, 8, 9, 10, 11] [12, 13, 14, 15, 16, 17] rfl rfl (by decide) (by decide) hk1 hFc hP1 hD1
        generalize H1 = H at hP hS ⊢
        replace hP := hP.sub (ws' := ((cx qx cax C Lz_46 fz_46 wz_46 dz_46 stz_46 tgz_46 hiz_46 miz_46 goz_46) ++ (cm qm cam C fm nm w d st tg hi mi go))) [6, 7, 8, 9, 10, 11, 12, 13, 14, 15, 16, 17, 0, 1, 2, 3, 4, 5] rfl
        replace hD := hD.sub (ws' := ((cx qx cax C Lz_46 fz_46 wz_46 dz_46 stz_46 tgz_46 hiz_46 miz_46 goz_46) ++ (cm qm cam C fm nm w d st tg hi mi go))) [6, 7, 8, 9, 10, 11, 12, 13, 14, 15, 16, 17, 0, 1, 2, 3, 4, 5] (by decide) rfl
        obtain ⟨rx, erx⟩ : ∃ z, z = r := ⟨_, rfl⟩
        rw [← erx] at hwz_46 ⊢
        clear erx
        refine lv_aload_n hx hb dL_law_284 rfl (lv_at hl 2 rfl) ?_
        have hPc := hP.sub (ws' := (cm qm cam C fm nm w d st tg hi mi go)) [12, 13, 14, 15, 16, 17] rfl
        have hDc := hD.sub (ws' := (cm qm cam C fm nm w d st tg hi mi go)) [12, 13, 14, 15, 16, 17] (by decide) rfl
        have hKc := hK.sub (tys' := (km cam)) [7, 8, 9, 10, 11] rfl
        have hFc := va_free (wc := (cm qm cam C fm nm w d st tg hi mi go)) hD hS hA [12, 13, 14, 15, 16, 17] rfl
        refine va_calli (va_runV (As := []) (rest := [.int rx]) ⟨hx, hb, hml, hown, hts⟩ (c_M_hits l dC dI qm cam C fm nm w d st tg hi mi go L  H.size hfm) (cwV 0 hts gL_law_X2_hits rfl rfl rfl (by decide +kernel) ⟨Nat.le_of_ble_eq_true rfl, Nat.le_of_ble_eq_true rfl⟩) ⟨fun a U g mk q => by obtain ⟨q0, q1, qP, qK, qD⟩ := q; exact ⟨q0, q1, qP, va_K.moved (u := U) (U := U.calling g mk a) (Vm.Alike.refl U.vm) qK, qD⟩, va_recv hKc hPc (ci := 2) (q0 := 0) rfl rfl, fun U hU hW => ⟨rfl, by rw [hU], by rw [hU]; exact hPc, va_K.moved hW.alike hKc, hDc.weaken (fun _ _ _ _ => trivial)⟩⟩ rfl rfl hl.1 rfl (lv_room (Nat.le_of_ble_eq_true rfl)) dL_law_285 ⟨Nat.le_of_ble_eq_true rfl, Nat.le_of_ble_eq_true rfl⟩) hS (fun q _ h => hFc q h) hFc (fun r u t H1 locs ht hvm hw hB hz1 hk1 hS => ?_)
        obtain ⟨L1, w1, d1, st1, tg1, hi1, mi1, go1⟩ := u
        obtain ⟨f1, n1, hf1, hP1, hK1, hD1⟩ := hB
        rw [ht] at hP1
        have hw9 := hw
        obtain ⟨Lz_47, wz_47, dz_47, stz_47, tgz_47, hiz_47, miz_47, goz_47, fz_47, nz_47, hren9⟩ : ∃ Lz_47 wz_47 dz_47 stz_47 tgz_47 hiz_47 miz_47 goz_47 fz_47 nz_47, Lz_47 = L1 ∧ wz_47 = w1 ∧ dz_47 = d1 ∧ stz_47 = st1 ∧ tgz_47 = tg1 ∧ hiz_47 = hi1 ∧ miz_47 = mi1 ∧ goz_47 = go1 ∧ fz_47 = f1 ∧ nz_47 = n1 := ⟨_, _, _, _, _, _, _, _, _, _, rfl, rfl, rfl, rfl, rfl, rfl, rfl, rfl, rfl, rfl⟩
        obtain ⟨rfl, rfl, rfl, rfl, rfl, rfl, rfl, rfl, rfl, rfl⟩ := hren9
        have hfz_47 := hf1
        have hwz_47 := hw9
        obtain ⟨hP, hD⟩ := va_join (wr := (cx qx cax C Lz_46 fz_46 wz_46 dz_46 stz_46 tgz_46 hiz_46 miz_46 goz_46)) (w1 := (cm qm cam C fz_47 nz_47 wz_47 dz_47 stz_47 tgz_47 hiz_47 miz_47 goz_47)) hP hD [12, 13, 14, 15, 16, 17] [0, 1, 2, 3, 4, 5, 6, 7, 8, 9, 10, 11] rfl rfl (by decide) (by decide) hk1 hFc hP1 hD1
        generalize H1 = H at hP hS ⊢
        replace hP : va_P (dC, dI) vwCl ((cx qx cax C Lz_46 fz_46 wz_46 dz_46 stz_46 tgz_46 hiz_46 miz_46 goz_46) ++ (cm qm cam C fz_47 nz_47 wz_47 dz_47 stz_47 tgz_47 hiz_47 miz_47 goz_47)) H := hP
        replace hD : va_D A ((cx qx cax C Lz_46 fz_46 wz_46 dz_46 stz_46 tgz_46 hiz_46 miz_46 goz_46) ++ (cm qm cam C fz_47 nz_47 wz_47 dz_47 stz_47 tgz_47 hiz_47 miz_47 goz_47)) := hD
        obtain ⟨era9, eua9⟩ := hwz_46
        obtain ⟨erb9, eub9⟩ := hwz_47
        cases eua9
        cases eub9
        have err9 : rx = r := era9.trans erb9.symm
        refine lv_icmp_eq (tgt := 365) hx hb dL_law_288 (by decide) (fun c_288 => ?_) (fun c_288 => ?_)
        · skip
          refine lv_iinc (v := nI (i + 3)) (lv' := [(3, .int (nI (i + 3))), (0, .ref b), (1, .ref (qx 0)), (2, .ref (qm 0))]) hx hb dL_law_365 hl (k := 3) rfl (nI_add _ _) (by decide) rfl (fun ls hl => ?_)
          refine lv_goto (tgt := 28) hx hb dL_law_368 (by decide) ?_
          exact ih (i + 3) _ _ _ _ _ _ _ _ _ _ _ _ _ _ _ _ _ (by omega) hok hfz_46 hfz_47 hK hP hD hS _ (lv_sub hl [1, 2, 3, 0] rfl) (by omega)
        · skip
          exact absurd err9 c_288
      · skip
        refine lv_tableIn (tgt := 293) (off := 251) hx hb dL_law_42 (by decide) (by decide) (by decide) (by decide) ?_
        refine lv_aload_n hx hb dL_law_293 rfl (lv_at hl 1 rfl) ?_
        have hPc := hP.sub (ws' := (cx qx cax C L fx w d st tg hi mi go)) [0, 1, 2, 3, 4, 5, 6, 7, 8, 9, 10, 11] rfl
        have hDc := hD.sub (ws' := (cx qx cax C L fx w d st tg hi mi go)) [0, 1, 2, 3, 4, 5, 6, 7, 8, 9, 10, 11] (by decide) rfl
        have hKc := hK.sub (tys' := (kx cax)) [0, 1, 2, 3, 4, 5, 6] rfl
        have hFc := va_free (wc := (cx qx cax C L fx w d st tg hi mi go)) hD hS hA [0, 1, 2, 3, 4, 5, 6, 7, 8, 9, 10, 11] rfl
        refine va_calli (va_runV (As := []) (rest := []) ⟨hx, hb, hml, hown, hts⟩ (c_X_misses l dC dI qx cax C L fx w d st tg hi mi go  H.size hfx) (cwV 0 hts gL_law_X1_misses rfl rfl rfl (by decide +kernel) ⟨Nat.le_of_ble_eq_true rfl, Nat.le_of_ble_eq_true rfl⟩) ⟨fun a U g mk q => by obtain ⟨q0, q1, qP, qK, qD⟩ := q; exact ⟨q0, q1, qP, va_K.moved (u := U) (U := U.calling g mk a) (Vm.Alike.refl U.vm) qK, qD⟩, va_recv hKc hPc (ci := 1) (q0 := 0) rfl rfl, fun U hU hW => ⟨rfl, by rw [hU], by rw [hU]; exact hPc, va_K.moved hW.alike hKc, hDc.weaken (fun _ _ _ _ => trivial)⟩⟩ rfl rfl hl.1 rfl (lv_room (Nat.le_of_ble_eq_true rfl)) dL_law_294 ⟨Nat.le_of_ble_eq_true rfl, Nat.le_of_ble_eq_true rfl⟩) hS (fun q _ h => hFc q h) hFc (fun r u t H1 locs ht hvm hw hB hz1 hk1 hS => ?_)
        obtain ⟨L1, w1, d1, st1, tg1, hi1, mi1, go1⟩ := u
        obtain ⟨f1, hf1, hP1, hK1, hD1⟩ := hB
        rw [ht] at hP1
        have hw9 := hw
        obtain ⟨Lz_48, wz_48, dz_48, stz_48, tgz_48, hiz_48, miz_48, goz_48, fz_48, hren9⟩ : ∃ Lz_48 wz_48 dz_48 stz_48 tgz_48 hiz_48 miz_48 goz_48 fz_48, Lz_48 = L1 ∧ wz_48 = w1 ∧ dz_48 = d1 ∧ stz_48 = st1 ∧ tgz_48 = tg1 ∧ hiz_48 = hi1 ∧ miz_48 = mi1 ∧ goz_48 = go1 ∧ fz_48 = f1 := ⟨_, _, _, _, _, _, _, _, _, rfl, rfl, rfl, rfl, rfl, rfl, rfl, rfl, rfl⟩
        obtain ⟨rfl, rfl, rfl, rfl, rfl, rfl, rfl, rfl, rfl⟩ := hren9
        have hfz_48 := hf1
        have hwz_48 := hw9
        obtain ⟨hP, hD⟩ := va_join (wr := (cm qm cam C fm nm w d st tg hi mi go)) (w1 := (cx qx cax C Lz_48 fz_48 wz_48 dz_48 stz_48 tgz_48 hiz_48 miz_48 goz_48)) hP hD [0, 1, 2, 3, 4, 5, 6, 7, 8, 9, 10, 11] [12, 13, 14, 15, 16, 17] rfl rfl (by decide) (by decide) hk1 hFc hP1 hD1
        generalize H1 = H at hP hS ⊢
        replace hP := hP.sub (ws' := ((cx qx cax C Lz_48 fz_48 wz_48 dz_48 stz_48 tgz_48 hiz_48 miz_48 goz_48) ++ (cm qm cam C fm nm w d st tg hi mi go))) [6, 7, 8, 9, 10, 11, 12, 13, 14, 15, 16, 17, 0, 1, 2, 3, 4, 5] rfl
        replace hD := hD.sub (ws' := ((cx qx cax C Lz_48 fz_48 wz_48 dz_48 stz_48 tgz_48 hiz_48 miz_48 goz_48) ++ (cm qm cam C fm nm w d st tg hi mi go))) [6, 7, 8, 9, 10, 11, 12, 13, 14, 15, 16, 17, 0, 1, 2, 3, 4, 5] (by decide) rfl
        obtain ⟨rx, erx⟩ : ∃ z, z = r := ⟨_, rfl⟩
        rw [← erx] at hwz_48 ⊢
        clear erx
        refine lv_aload_n hx hb dL_law_297 rfl (lv_at hl 2 rfl) ?_
        have hPc := hP.sub (ws' := (cm qm cam C fm nm w d st tg hi mi go)) [12, 13, 14, 15, 16, 17] rfl
        have hDc := hD.sub (ws' := (cm qm cam C fm nm w d st tg hi mi go)) [12, 13, 14, 15, 16, 17] (by decide) rfl
        have hKc := hK.sub (tys' := (km cam)) [7, 8, 9, 10, 11] rfl
        have hFc := va_free (wc := (cm qm cam C fm nm w d st tg hi mi go)) hD hS hA [12, 13, 14, 15, 16, 17] rfl
        refine va_calli (va_runV (As := []) (rest := [.int rx]) ⟨hx, hb, hml, hown, hts⟩ (c_M_misses l dC dI qm cam C fm nm w d st tg hi mi go L  H.size hfm) (cwV 0 hts gL_law_X2_misses rfl rfl rfl (by decide +kernel) ⟨Nat.le_of_ble_eq_true rfl, Nat.le_of_ble_eq_true rfl⟩) ⟨fun a U g mk q => by obtain ⟨q0, q1, qP, qK, qD⟩ := q; exact ⟨q0, q1, qP, va_K.moved (u := U) (U := U.calling g mk a) (Vm.Alike.refl U.vm) qK, qD⟩, va_recv hKc hPc (ci := 2) (q0 := 0) rfl rfl, fun U hU hW => ⟨rfl, by rw [hU], by rw [hU]; exact hPc, va_K.moved hW.alike hKc, hDc.weaken (fun _ _ _ _ => trivial)⟩⟩ rfl rfl hl.1 rfl (lv_room (Nat.le_of_ble_eq_true rfl)) dL_law_298 ⟨Nat.le_of_ble_eq_true rfl, Nat.le_of_ble_eq_true rfl⟩) hS (fun q _ h => hFc q h) hFc (fun r u t H1 locs ht hvm hw hB hz1 hk1 hS => ?_)
        obtain ⟨L1, w1, d1, st1, tg1, hi1, mi1, go1⟩ := u
        obtain ⟨f1, n1, hf1, hP1, hK1, hD1⟩ := hB
        rw [ht] at hP1
        have hw9 := hw
        obtain ⟨Lz_49, wz_49, dz_49, stz_49, tgz_49, hiz_49, miz_49, goz_49, fz_49, nz_49, hren9⟩ : ∃ Lz_49 wz_49 dz_49 stz_49 tgz_49 hiz_49 miz_49 goz_49 fz_49 nz_49, Lz_49 = L1 ∧ wz_49 = w1 ∧ dz_49 = d1 ∧ stz_49 = st1 ∧ tgz_49 = tg1 ∧ hiz_49 = hi1 ∧ miz_49 = mi1 ∧ goz_49 = go1 ∧ fz_49 = f1 ∧ nz_49 = n1 := ⟨_, _, _, _, _, _, _, _, _, _, rfl, rfl, rfl, rfl, rfl, rfl, rfl, rfl, rfl, rfl⟩
        obtain ⟨rfl, rfl, rfl, rfl, rfl, rfl, rfl, rfl, rfl, rfl⟩ := hren9
        have hfz_49 := hf1
        have hwz_49 := hw9
        obtain ⟨hP, hD⟩ := va_join (wr := (cx qx cax C Lz_48 fz_48 wz_48 dz_48 stz_48 tgz_48 hiz_48 miz_48 goz_48)) (w1 := (cm qm cam C fz_49 nz_49 wz_49 dz_49 stz_49 tgz_49 hiz_49 miz_49 goz_49)) hP hD [12, 13, 14, 15, 16, 17] [0, 1, 2, 3, 4, 5, 6, 7, 8, 9, 10, 11] rfl rfl (by decide) (by decide) hk1 hFc hP1 hD1
        generalize H1 = H at hP hS ⊢
        replace hP : va_P (dC, dI) vwCl ((cx qx cax C Lz_48 fz_48 wz_48 dz_48 stz_48 tgz_48 hiz_48 miz_48 goz_48) ++ (cm qm cam C fz_49 nz_49 wz_49 dz_49 stz_49 tgz_49 hiz_49 miz_49 goz_49)) H := hP
        replace hD : va_D A ((cx qx cax C Lz_48 fz_48 wz_48 dz_48 stz_48 tgz_48 hiz_48 miz_48 goz_48) ++ (cm qm cam C fz_49 nz_49 wz_49 dz_49 stz_49 tgz_49 hiz_49 miz_49 goz_49)) := hD
        obtain ⟨era9, eua9⟩ := hwz_48
        obtain ⟨erb9, eub9⟩ := hwz_49
        cases eua9
        cases eub9
        have err9 : rx = r := era9.trans erb9.symm
        refine lv_icmp_eq (tgt := 365) hx hb dL_law_301 (by decide) (fun c_301 => ?_) (fun c_301 => ?_)
        · skip
          refine lv_iinc (v := nI (i + 3)) (lv' := [(3, .int (nI (i + 3))), (0, .ref b), (1, .ref (qx 0)), (2, .ref (qm 0))]) hx hb dL_law_365 hl (k := 3) rfl (nI_add _ _) (by decide) rfl (fun ls hl => ?_)
          refine lv_goto (tgt := 28) hx hb dL_law_368 (by decide) ?_
          exact ih (i + 3) _ _ _ _ _ _ _ _ _ _ _ _ _ _ _ _ _ (by omega) hok hfz_48 hfz_49 hK hP hD hS _ (lv_sub hl [1, 2, 3, 0] rfl) (by omega)
        · skip
          exact absurd err9 c_301
      · skip
        refine lv_tableIn (tgt := 306) (off := 264) hx hb dL_law_42 (by decide) (by decide) (by decide) (by decide) ?_
        refine lv_aload_n hx hb dL_law_306 rfl (lv_at hl 1 rfl) ?_
        refine lv_aload_n hx hb dL_law_307 rfl (lv_at hl 0 rfl) ?_
        refine lv_iload_n hx hb dL_law_308 rfl (lv_at hl 3 rfl) ?_
        refine lv_iconst (v := nI 1) hx hb dL_law_309 (by decide) ?_
        refine lv_iadd hx hb dL_law_310 ?_
        refine lv_topi (fun x_50 e_x_50 => ?_)
        have e_x_50 : x_50 = nI (i + 1) := by rw [e_x_50]; exact nI_add _ _
        subst e_x_50
        refine va_sld hx hb hX hbl hbA hS (vp_in_nI (show i + 1 < Ln by omega) (by omega)) dL_law_311 ?_
        refine lv_topi (fun x_51 e_x_51 => ?_)
        have e_x_51 : x_51 = xs (i + 1) := by rw [e_x_51]; rw [nI_clamp (by omega)]
        subst e_x_51
        have hPc := hP.sub (ws' := (cx qx cax C L fx w d st tg hi mi go)) [0, 1, 2, 3, 4, 5, 6, 7, 8, 9, 10, 11] rfl
        have hDc := hD.sub (ws' := (cx qx cax C L fx w d st tg hi mi go)) [0, 1, 2, 3, 4, 5, 6, 7, 8, 9, 10, 11] (by decide) rfl
        have hKc := hK.sub (tys' := (kx cax)) [0, 1, 2, 3, 4, 5, 6] rfl
        have hFc := va_free (wc := (cx qx cax C L fx w d st tg hi mi go)) hD hS hA [0, 1, 2, 3, 4, 5, 6, 7, 8, 9, 10, 11] rfl
        refine va_calli (va_runV (As := [.int (xs (i + 1))]) (rest := []) ⟨hx, hb, hml, hown, hts⟩ (c_X_store l dC dI qx cax C L fx w d st tg hi mi go (xs (i + 1)) H.size hfx) (cwV 1 hts gL_law_X1_store rfl rfl rfl (by decide +kernel) ⟨Nat.le_of_ble_eq_true rfl, Nat.le_of_ble_eq_true rfl⟩) ⟨fun a U g mk q => by obtain ⟨q0, q1, qP, qK, qD⟩ := q; exact ⟨q0, q1, qP, va_K.moved (u := U) (U := U.calling g mk a) (Vm.Alike.refl U.vm) qK, qD⟩, va_recv hKc hPc (ci := 1) (q0 := 0) rfl rfl, fun U hU hW => ⟨rfl, by rw [hU], by rw [hU]; exact hPc, va_K.moved hW.alike hKc, hDc.weaken (fun _ _ _ _ => trivial)⟩⟩ rfl rfl hl.1 rfl (lv_room (Nat.le_of_ble_eq_true rfl)) dL_law_312 ⟨Nat.le_of_ble_eq_true rfl, Nat.le_of_ble_eq_true rfl⟩) hS (fun q _ h => hFc q h) hFc (fun r u t H1 locs ht hvm hw hB hz1 hk1 hS => ?_)
        obtain ⟨L1, w1, d1, st1, tg1, hi1, mi1, go1⟩ := u
        obtain ⟨f1, hf1, hP1, hK1, hD1⟩ := hB
        rw [ht] at hP1
        have hw9 := hw
        obtain ⟨Lz_52, wz_52, dz_52, stz_52, tgz_52, hiz_52, miz_52, goz_52, fz_52, hren9⟩ : ∃ Lz_52 wz_52 dz_52 stz_52 tgz_52 hiz_52 miz_52 goz_52 fz_52, Lz_52 = L1 ∧ wz_52 = w1 ∧ dz_52 = d1 ∧ stz_52 = st1 ∧ tgz_52 = tg1 ∧ hiz_52 = hi1 ∧ miz_52 = mi1 ∧ goz_52 = go1 ∧ fz_52 = f1 := ⟨_, _, _, _, _, _, _, _, _, rfl, rfl, rfl, rfl, rfl, rfl, rfl, rfl, rfl⟩
        obtain ⟨rfl, rfl, rfl, rfl, rfl, rfl, rfl, rfl, rfl⟩ := hren9
        have hfz_52 := hf1
        have hwz_52 := hw9
        obtain ⟨hP, hD⟩ := va_join (wr := (cm qm cam C fm nm w d st tg hi mi go)) (w1 := (cx qx cax C Lz_52 fz_52 wz_52 dz_52 stz_52 tgz_52 hiz_52 miz_52 goz_52)) hP hD [0, 1, 2, 3, 4, 5, 6, 7, 8, 9, 10, 11] [12, 13, 14, 15, 16, 17] rfl rfl (by decide) (by decide) hk1 hFc hP1 hD1
        generalize H1 = H at hP hS ⊢
        replace hP := hP.sub (ws' := ((cx qx cax C Lz_52 fz_52 wz_52 dz_52 stz_52 tgz_52 hiz_52 miz_52 goz_52) ++ (cm qm cam C fm nm w d st tg hi mi go))) [6, 7, 8, 9, 10, 11, 12, 13, 14, 15, 16, 17, 0, 1, 2, 3, 4, 5] rfl
        replace hD := hD.sub (ws' := ((cx qx cax C Lz_52 fz_52 wz_52 dz_52 stz_52 tgz_52 hiz_52 miz_52 goz_52) ++ (cm qm cam C fm nm w d st tg hi mi go))) [6, 7, 8, 9, 10, 11, 12, 13, 14, 15, 16, 17, 0, 1, 2, 3, 4, 5] (by decide) rfl
        obtain ⟨rx, erx⟩ : ∃ z, z = r := ⟨_, rfl⟩
        rw [← erx] at hwz_52 ⊢
        clear erx
        refine lv_aload_n hx hb dL_law_315 rfl (lv_at hl 2 rfl) ?_
        refine lv_aload_n hx hb dL_law_316 rfl (lv_at hl 0 rfl) ?_
        refine lv_iload_n hx hb dL_law_317 rfl (lv_at hl 3 rfl) ?_
        refine lv_iconst (v := nI 1) hx hb dL_law_318 (by decide) ?_
        refine lv_iadd hx hb dL_law_319 ?_
        refine lv_topi (fun x_53 e_x_53 => ?_)
        have e_x_53 : x_53 = nI (i + 1) := by rw [e_x_53]; exact nI_add _ _
        subst e_x_53
        refine va_sld hx hb hX hbl hbA hS (vp_in_nI (show i + 1 < Ln by omega) (by omega)) dL_law_320 ?_
        refine lv_topi (fun x_54 e_x_54 => ?_)
        have e_x_54 : x_54 = xs (i + 1) := by rw [e_x_54]; rw [nI_clamp (by omega)]
        subst e_x_54
        have hPc := hP.sub (ws' := (cm qm cam C fm nm w d st tg hi mi go)) [12, 13, 14, 15, 16, 17] rfl
        have hDc := hD.sub (ws' := (cm qm cam C fm nm w d st tg hi mi go)) [12, 13, 14, 15, 16, 17] (by decide) rfl
        have hKc := hK.sub (tys' := (km cam)) [7, 8, 9, 10, 11] rfl
        have hFc := va_free (wc := (cm qm cam C fm nm w d st tg hi mi go)) hD hS hA [12, 13, 14, 15, 16, 17] rfl
        refine va_calli (va_runV (As := [.int (xs (i + 1))]) (rest := [.int rx]) ⟨hx, hb, hml, hown, hts⟩ (c_M_store l dC dI qm cam C fm nm w d st tg hi mi go L (xs (i + 1)) H.size hfm) (cwV 1 hts gL_law_X2_store rfl rfl rfl (by decide +kernel) ⟨Nat.le_of_ble_eq_true rfl, Nat.le_of_ble_eq_true rfl⟩) ⟨fun a U g mk q => by obtain ⟨q0, q1, qP, qK, qD⟩ := q; exact ⟨q0, q1, qP, va_K.moved (u := U) (U := U.calling g mk a) (Vm.Alike.refl U.vm) qK, qD⟩, va_recv hKc hPc (ci := 2) (q0 := 0) rfl rfl, fun U hU hW => ⟨rfl, by rw [hU], by rw [hU]; exact hPc, va_K.moved hW.alike hKc, hDc.weaken (fun _ _ _ _ => trivial)⟩⟩ rfl rfl hl.1 rfl (lv_room (Nat.le_of_ble_eq_true rfl)) dL_law_321 ⟨Nat.le_of_ble_eq_true rfl, Nat.le_of_ble_eq_true rfl⟩) hS (fun q _ h => hFc q h) hFc (fun r u t H1 locs ht hvm hw hB hz1 hk1 hS => ?_)
        obtain ⟨L1, w1, d1, st1, tg1, hi1, mi1, go1⟩ := u
        obtain ⟨f1, n1, hf1, hP1, hK1, hD1⟩ := hB
        rw [ht] at hP1
        have hw9 := hw
        obtain ⟨Lz_55, wz_55, dz_55, stz_55, tgz_55, hiz_55, miz_55, goz_55, fz_55, nz_55, hren9⟩ : ∃ Lz_55 wz_55 dz_55 stz_55 tgz_55 hiz_55 miz_55 goz_55 fz_55 nz_55, Lz_55 = L1 ∧ wz_55 = w1 ∧ dz_55 = d1 ∧ stz_55 = st1 ∧ tgz_55 = tg1 ∧ hiz_55 = hi1 ∧ miz_55 = mi1 ∧ goz_55 = go1 ∧ fz_55 = f1 ∧ nz_55 = n1 := ⟨_, _, _, _, _, _, _, _, _, _, rfl, rfl, rfl, rfl, rfl, rfl, rfl, rfl, rfl, rfl⟩
        obtain ⟨rfl, rfl, rfl, rfl, rfl, rfl, rfl, rfl, rfl, rfl⟩ := hren9
        have hfz_55 := hf1
        have hwz_55 := hw9
        obtain ⟨hP, hD⟩ := va_join (wr := (cx qx cax C Lz_52 fz_52 wz_52 dz_52 stz_52 tgz_52 hiz_52 miz_52 goz_52)) (w1 := (cm qm cam C fz_55 nz_55 wz_55 dz_55 stz_55 tgz_55 hiz_55 miz_55 goz_55)) hP hD [12, 13, 14, 15, 16, 17] [0, 1, 2, 3, 4, 5, 6, 7, 8, 9, 10, 11] rfl rfl (by decide) (by decide) hk1 hFc hP1 hD1
        generalize H1 = H at hP hS ⊢
        replace hP : va_P (dC, dI) vwCl ((cx qx cax C Lz_52 fz_52 wz_52 dz_52 stz_52 tgz_52 hiz_52 miz_52 goz_52) ++ (cm qm cam C fz_55 nz_55 wz_55 dz_55 stz_55 tgz_55 hiz_55 miz_55 goz_55)) H := hP
        replace hD : va_D A ((cx qx cax C Lz_52 fz_52 wz_52 dz_52 stz_52 tgz_52 hiz_52 miz_52 goz_52) ++ (cm qm cam C fz_55 nz_55 wz_55 dz_55 stz_55 tgz_55 hiz_55 miz_55 goz_55)) := hD
        obtain ⟨era9, eua9⟩ := hwz_52
        obtain ⟨erb9, eub9⟩ := hwz_55
        cases eua9
        cases eub9
        have err9 : rx = r := era9.trans erb9.symm
        refine lv_icmp_eq (tgt := 365) hx hb dL_law_324 (by decide) (fun c_324 => ?_) (fun c_324 => ?_)
        · skip
          refine lv_iinc (v := nI (i + 3)) (lv' := [(3, .int (nI (i + 3))), (0, .ref b), (1, .ref (qx 0)), (2, .ref (qm 0))]) hx hb dL_law_365 hl (k := 3) rfl (nI_add _ _) (by decide) rfl (fun ls hl => ?_)
          refine lv_goto (tgt := 28) hx hb dL_law_368 (by decide) ?_
          exact ih (i + 3) _ _ _ _ _ _ _ _ _ _ _ _ _ _ _ _ _ (by omega) hok hfz_52 hfz_55 hK hP hD hS _ (lv_sub hl [1, 2, 3, 0] rfl) (by omega)
        · skip
          exact absurd err9 c_324
      · skip
        refine lv_tableIn (tgt := 329) (off := 287) hx hb dL_law_42 (by decide) (by decide) (by decide) (by decide) ?_
        refine lv_aload_n hx hb dL_law_329 rfl (lv_at hl 1 rfl) ?_
        refine lv_aload_n hx hb dL_law_330 rfl (lv_at hl 0 rfl) ?_
        refine lv_iload_n hx hb dL_law_331 rfl (lv_at hl 3 rfl) ?_
        refine lv_iconst (v := nI 1) hx hb dL_law_332 (by decide) ?_
        refine lv_iadd hx hb dL_law_333 ?_
        refine lv_topi (fun x_56 e_x_56 => ?_)
        have e_x_56 : x_56 = nI (i + 1) := by rw [e_x_56]; exact nI_add _ _
        subst e_x_56
        refine va_sld hx hb hX hbl hbA hS (vp_in_nI (show i + 1 < Ln by omega) (by omega)) dL_law_334 ?_
        refine lv_topi (fun x_57 e_x_57 => ?_)
        have e_x_57 : x_57 = xs (i + 1) := by rw [e_x_57]; rw [nI_clamp (by omega)]
        subst e_x_57
        have hPc := hP.sub (ws' := (cx qx cax C L fx w d st tg hi mi go)) [0, 1, 2, 3, 4, 5, 6, 7, 8, 9, 10, 11] rfl
        have hDc := hD.sub (ws' := (cx qx cax C L fx w d st tg hi mi go)) [0, 1, 2, 3, 4, 5, 6, 7, 8, 9, 10, 11] (by decide) rfl
        have hKc := hK.sub (tys' := (kx cax)) [0, 1, 2, 3, 4, 5, 6] rfl
        have hFc := va_free (wc := (cx qx cax C L fx w d st tg hi mi go)) hD hS hA [0, 1, 2, 3, 4, 5, 6, 7, 8, 9, 10, 11] rfl
        refine va_calli (va_runV (As := [.int (xs (i + 1))]) (rest := []) ⟨hx, hb, hml, hown, hts⟩ (c_X_isDirty l dC dI qx cax C L fx w d st tg hi mi go (xs (i + 1)) H.size hfx) (cwV 1 hts gL_law_X1_isDirty rfl rfl rfl (by decide +kernel) ⟨Nat.le_of_ble_eq_true rfl, Nat.le_of_ble_eq_true rfl⟩) ⟨fun a U g mk q => by obtain ⟨q0, q1, qP, qK, qD⟩ := q; exact ⟨q0, q1, qP, va_K.moved (u := U) (U := U.calling g mk a) (Vm.Alike.refl U.vm) qK, qD⟩, va_recv hKc hPc (ci := 1) (q0 := 0) rfl rfl, fun U hU hW => ⟨rfl, by rw [hU], by rw [hU]; exact hPc, va_K.moved hW.alike hKc, hDc.weaken (fun _ _ _ _ => trivial)⟩⟩ rfl rfl hl.1 rfl (lv_room (Nat.le_of_ble_eq_true rfl)) dL_law_335 ⟨Nat.le_of_ble_eq_true rfl, Nat.le_of_ble_eq_true rfl⟩) hS (fun q _ h => hFc q h) hFc (fun r u t H1 locs ht hvm hw hB hz1 hk1 hS => ?_)
        obtain ⟨L1, w1, d1, st1, tg1, hi1, mi1, go1⟩ := u
        obtain ⟨f1, hf1, hP1, hK1, hD1⟩ := hB
        rw [ht] at hP1
        have hw9 := hw
        obtain ⟨Lz_58, wz_58, dz_58, stz_58, tgz_58, hiz_58, miz_58, goz_58, fz_58, hren9⟩ : ∃ Lz_58 wz_58 dz_58 stz_58 tgz_58 hiz_58 miz_58 goz_58 fz_58, Lz_58 = L1 ∧ wz_58 = w1 ∧ dz_58 = d1 ∧ stz_58 = st1 ∧ tgz_58 = tg1 ∧ hiz_58 = hi1 ∧ miz_58 = mi1 ∧ goz_58 = go1 ∧ fz_58 = f1 := ⟨_, _, _, _, _, _, _, _, _, rfl, rfl, rfl, rfl, rfl, rfl, rfl, rfl, rfl⟩
        obtain ⟨rfl, rfl, rfl, rfl, rfl, rfl, rfl, rfl, rfl⟩ := hren9
        have hfz_58 := hf1
        have hwz_58 := hw9
        obtain ⟨hP, hD⟩ := va_join (wr := (cm qm cam C fm nm w d st tg hi mi go)) (w1 := (cx qx cax C Lz_58 fz_58 wz_58 dz_58 stz_58 tgz_58 hiz_58 miz_58 goz_58)) hP hD [0, 1, 2, 3, 4, 5, 6, 7, 8, 9, 10, 11] [12, 13, 14, 15, 16, 17] rfl rfl (by decide) (by decide) hk1 hFc hP1 hD1
        generalize H1 = H at hP hS ⊢
        replace hP := hP.sub (ws' := ((cx qx cax C Lz_58 fz_58 wz_58 dz_58 stz_58 tgz_58 hiz_58 miz_58 goz_58) ++ (cm qm cam C fm nm w d st tg hi mi go))) [6, 7, 8, 9, 10, 11, 12, 13, 14, 15, 16, 17, 0, 1, 2, 3, 4, 5] rfl
        replace hD := hD.sub (ws' := ((cx qx cax C Lz_58 fz_58 wz_58 dz_58 stz_58 tgz_58 hiz_58 miz_58 goz_58) ++ (cm qm cam C fm nm w d st tg hi mi go))) [6, 7, 8, 9, 10, 11, 12, 13, 14, 15, 16, 17, 0, 1, 2, 3, 4, 5] (by decide) rfl
        obtain ⟨rx, erx⟩ : ∃ z, z = r := ⟨_, rfl⟩
        rw [← erx] at hwz_58 ⊢
        clear erx
        refine lv_aload_n hx hb dL_law_338 rfl (lv_at hl 2 rfl) ?_
        refine lv_aload_n hx hb dL_law_339 rfl (lv_at hl 0 rfl) ?_
        refine lv_iload_n hx hb dL_law_340 rfl (lv_at hl 3 rfl) ?_
        refine lv_iconst (v := nI 1) hx hb dL_law_341 (by decide) ?_
        refine lv_iadd hx hb dL_law_342 ?_
        refine lv_topi (fun x_59 e_x_59 => ?_)
        have e_x_59 : x_59 = nI (i + 1) := by rw [e_x_59]; exact nI_add _ _
        subst e_x_59
        refine va_sld hx hb hX hbl hbA hS (vp_in_nI (show i + 1 < Ln by omega) (by omega)) dL_law_343 ?_
        refine lv_topi (fun x_60 e_x_60 => ?_)
        have e_x_60 : x_60 = xs (i + 1) := by rw [e_x_60]; rw [nI_clamp (by omega)]
        subst e_x_60
        have hPc := hP.sub (ws' := (cm qm cam C fm nm w d st tg hi mi go)) [12, 13, 14, 15, 16, 17] rfl
        have hDc := hD.sub (ws' := (cm qm cam C fm nm w d st tg hi mi go)) [12, 13, 14, 15, 16, 17] (by decide) rfl
        have hKc := hK.sub (tys' := (km cam)) [7, 8, 9, 10, 11] rfl
        have hFc := va_free (wc := (cm qm cam C fm nm w d st tg hi mi go)) hD hS hA [12, 13, 14, 15, 16, 17] rfl
        refine va_calli (va_runV (As := [.int (xs (i + 1))]) (rest := [.int rx]) ⟨hx, hb, hml, hown, hts⟩ (c_M_isDirty l dC dI qm cam C fm nm w d st tg hi mi go L (xs (i + 1)) H.size hfm) (cwV 1 hts gL_law_X2_isDirty rfl rfl rfl (by decide +kernel) ⟨Nat.le_of_ble_eq_true rfl, Nat.le_of_ble_eq_true rfl⟩) ⟨fun a U g mk q => by obtain ⟨q0, q1, qP, qK, qD⟩ := q; exact ⟨q0, q1, qP, va_K.moved (u := U) (U := U.calling g mk a) (Vm.Alike.refl U.vm) qK, qD⟩, va_recv hKc hPc (ci := 2) (q0 := 0) rfl rfl, fun U hU hW => ⟨rfl, by rw [hU], by rw [hU]; exact hPc, va_K.moved hW.alike hKc, hDc.weaken (fun _ _ _ _ => trivial)⟩⟩ rfl rfl hl.1 rfl (lv_room (Nat.le_of_ble_eq_true rfl)) dL_law_344 ⟨Nat.le_of_ble_eq_true rfl, Nat.le_of_ble_eq_true rfl⟩) hS (fun q _ h => hFc q h) hFc (fun r u t H1 locs ht hvm hw hB hz1 hk1 hS => ?_)
        obtain ⟨L1, w1, d1, st1, tg1, hi1, mi1, go1⟩ := u
        obtain ⟨f1, n1, hf1, hP1, hK1, hD1⟩ := hB
        rw [ht] at hP1
        have hw9 := hw
        obtain ⟨Lz_61, wz_61, dz_61, stz_61, tgz_61, hiz_61, miz_61, goz_61, fz_61, nz_61, hren9⟩ : ∃ Lz_61 wz_61 dz_61 stz_61 tgz_61 hiz_61 miz_61 goz_61 fz_61 nz_61, Lz_61 = L1 ∧ wz_61 = w1 ∧ dz_61 = d1 ∧ stz_61 = st1 ∧ tgz_61 = tg1 ∧ hiz_61 = hi1 ∧ miz_61 = mi1 ∧ goz_61 = go1 ∧ fz_61 = f1 ∧ nz_61 = n1 := ⟨_, _, _, _, _, _, _, _, _, _, rfl, rfl, rfl, rfl, rfl, rfl, rfl, rfl, rfl, rfl⟩
        obtain ⟨rfl, rfl, rfl, rfl, rfl, rfl, rfl, rfl, rfl, rfl⟩ := hren9
        have hfz_61 := hf1
        have hwz_61 := hw9
        obtain ⟨hP, hD⟩ := va_join (wr := (cx qx cax C Lz_58 fz_58 wz_58 dz_58 stz_58 tgz_58 hiz_58 miz_58 goz_58)) (w1 := (cm qm cam C fz_61 nz_61 wz_61 dz_61 stz_61 tgz_61 hiz_61 miz_61 goz_61)) hP hD [12, 13, 14, 15, 16, 17] [0, 1, 2, 3, 4, 5, 6, 7, 8, 9, 10, 11] rfl rfl (by decide) (by decide) hk1 hFc hP1 hD1
        generalize H1 = H at hP hS ⊢
        replace hP : va_P (dC, dI) vwCl ((cx qx cax C Lz_58 fz_58 wz_58 dz_58 stz_58 tgz_58 hiz_58 miz_58 goz_58) ++ (cm qm cam C fz_61 nz_61 wz_61 dz_61 stz_61 tgz_61 hiz_61 miz_61 goz_61)) H := hP
        replace hD : va_D A ((cx qx cax C Lz_58 fz_58 wz_58 dz_58 stz_58 tgz_58 hiz_58 miz_58 goz_58) ++ (cm qm cam C fz_61 nz_61 wz_61 dz_61 stz_61 tgz_61 hiz_61 miz_61 goz_61)) := hD
        obtain ⟨era9, eua9⟩ := hwz_58
        obtain ⟨erb9, eub9⟩ := hwz_61
        cases eua9
        cases eub9
        have err9 : rx = r := era9.trans erb9.symm
        refine lv_icmp_eq (tgt := 365) hx hb dL_law_347 (by decide) (fun c_347 => ?_) (fun c_347 => ?_)
        · skip
          refine lv_iinc (v := nI (i + 3)) (lv' := [(3, .int (nI (i + 3))), (0, .ref b), (1, .ref (qx 0)), (2, .ref (qm 0))]) hx hb dL_law_365 hl (k := 3) rfl (nI_add _ _) (by decide) rfl (fun ls hl => ?_)
          refine lv_goto (tgt := 28) hx hb dL_law_368 (by decide) ?_
          exact ih (i + 3) _ _ _ _ _ _ _ _ _ _ _ _ _ _ _ _ _ (by omega) hok hfz_58 hfz_61 hK hP hD hS _ (lv_sub hl [1, 2, 3, 0] rfl) (by omega)
        · skip
          exact absurd err9 c_347
      · skip
        refine lv_tableIn (tgt := 352) (off := 310) hx hb dL_law_42 (by decide) (by decide) (by decide) (by decide) ?_
        refine lv_aload_n hx hb dL_law_352 rfl (lv_at hl 1 rfl) ?_
        have hPc := hP.sub (ws' := (cx qx cax C L fx w d st tg hi mi go)) [0, 1, 2, 3, 4, 5, 6, 7, 8, 9, 10, 11] rfl
        have hDc := hD.sub (ws' := (cx qx cax C L fx w d st tg hi mi go)) [0, 1, 2, 3, 4, 5, 6, 7, 8, 9, 10, 11] (by decide) rfl
        have hKc := hK.sub (tys' := (kx cax)) [0, 1, 2, 3, 4, 5, 6] rfl
        have hFc := va_free (wc := (cx qx cax C L fx w d st tg hi mi go)) hD hS hA [0, 1, 2, 3, 4, 5, 6, 7, 8, 9, 10, 11] rfl
        refine va_calli (va_runV (As := []) (rest := []) ⟨hx, hb, hml, hown, hts⟩ (c_X_gone l dC dI qx cax C L fx w d st tg hi mi go  H.size hfx) (cwV 0 hts gL_law_X1_gone rfl rfl rfl (by decide +kernel) ⟨Nat.le_of_ble_eq_true rfl, Nat.le_of_ble_eq_true rfl⟩) ⟨fun a U g mk q => by obtain ⟨q0, q1, qP, qK, qD⟩ := q; exact ⟨q0, q1, qP, va_K.moved (u := U) (U := U.calling g mk a) (Vm.Alike.refl U.vm) qK, qD⟩, va_recv hKc hPc (ci := 1) (q0 := 0) rfl rfl, fun U hU hW => ⟨rfl, by rw [hU], by rw [hU]; exact hPc, va_K.moved hW.alike hKc, hDc.weaken (fun _ _ _ _ => trivial)⟩⟩ rfl rfl hl.1 rfl (lv_room (Nat.le_of_ble_eq_true rfl)) dL_law_353 ⟨Nat.le_of_ble_eq_true rfl, Nat.le_of_ble_eq_true rfl⟩) hS (fun q _ h => hFc q h) hFc (fun r u t H1 locs ht hvm hw hB hz1 hk1 hS => ?_)
        obtain ⟨L1, w1, d1, st1, tg1, hi1, mi1, go1⟩ := u
        obtain ⟨f1, hf1, hP1, hK1, hD1⟩ := hB
        rw [ht] at hP1
        have hw9 := hw
        obtain ⟨Lz_62, wz_62, dz_62, stz_62, tgz_62, hiz_62, miz_62, goz_62, fz_62, hren9⟩ : ∃ Lz_62 wz_62 dz_62 stz_62 tgz_62 hiz_62 miz_62 goz_62 fz_62, Lz_62 = L1 ∧ wz_62 = w1 ∧ dz_62 = d1 ∧ stz_62 = st1 ∧ tgz_62 = tg1 ∧ hiz_62 = hi1 ∧ miz_62 = mi1 ∧ goz_62 = go1 ∧ fz_62 = f1 := ⟨_, _, _, _, _, _, _, _, _, rfl, rfl, rfl, rfl, rfl, rfl, rfl, rfl, rfl⟩
        obtain ⟨rfl, rfl, rfl, rfl, rfl, rfl, rfl, rfl, rfl⟩ := hren9
        have hfz_62 := hf1
        have hwz_62 := hw9
        obtain ⟨hP, hD⟩ := va_join (wr := (cm qm cam C fm nm w d st tg hi mi go)) (w1 := (cx qx cax C Lz_62 fz_62 wz_62 dz_62 stz_62 tgz_62 hiz_62 miz_62 goz_62)) hP hD [0, 1, 2, 3, 4, 5, 6, 7, 8, 9, 10, 11] [12, 13, 14, 15, 16, 17] rfl rfl (by decide) (by decide) hk1 hFc hP1 hD1
        generalize H1 = H at hP hS ⊢
        replace hP := hP.sub (ws' := ((cx qx cax C Lz_62 fz_62 wz_62 dz_62 stz_62 tgz_62 hiz_62 miz_62 goz_62) ++ (cm qm cam C fm nm w d st tg hi mi go))) [6, 7, 8, 9, 10, 11, 12, 13, 14, 15, 16, 17, 0, 1, 2, 3, 4, 5] rfl
        replace hD := hD.sub (ws' := ((cx qx cax C Lz_62 fz_62 wz_62 dz_62 stz_62 tgz_62 hiz_62 miz_62 goz_62) ++ (cm qm cam C fm nm w d st tg hi mi go))) [6, 7, 8, 9, 10, 11, 12, 13, 14, 15, 16, 17, 0, 1, 2, 3, 4, 5] (by decide) rfl
        obtain ⟨rx, erx⟩ : ∃ z, z = r := ⟨_, rfl⟩
        rw [← erx] at hwz_62 ⊢
        clear erx
        refine lv_aload_n hx hb dL_law_356 rfl (lv_at hl 2 rfl) ?_
        have hPc := hP.sub (ws' := (cm qm cam C fm nm w d st tg hi mi go)) [12, 13, 14, 15, 16, 17] rfl
        have hDc := hD.sub (ws' := (cm qm cam C fm nm w d st tg hi mi go)) [12, 13, 14, 15, 16, 17] (by decide) rfl
        have hKc := hK.sub (tys' := (km cam)) [7, 8, 9, 10, 11] rfl
        have hFc := va_free (wc := (cm qm cam C fm nm w d st tg hi mi go)) hD hS hA [12, 13, 14, 15, 16, 17] rfl
        refine va_calli (va_runV (As := []) (rest := [.int rx]) ⟨hx, hb, hml, hown, hts⟩ (c_M_gone l dC dI qm cam C fm nm w d st tg hi mi go L  H.size hfm) (cwV 0 hts gL_law_X2_gone rfl rfl rfl (by decide +kernel) ⟨Nat.le_of_ble_eq_true rfl, Nat.le_of_ble_eq_true rfl⟩) ⟨fun a U g mk q => by obtain ⟨q0, q1, qP, qK, qD⟩ := q; exact ⟨q0, q1, qP, va_K.moved (u := U) (U := U.calling g mk a) (Vm.Alike.refl U.vm) qK, qD⟩, va_recv hKc hPc (ci := 2) (q0 := 0) rfl rfl, fun U hU hW => ⟨rfl, by rw [hU], by rw [hU]; exact hPc, va_K.moved hW.alike hKc, hDc.weaken (fun _ _ _ _ => trivial)⟩⟩ rfl rfl hl.1 rfl (lv_room (Nat.le_of_ble_eq_true rfl)) dL_law_357 ⟨Nat.le_of_ble_eq_true rfl, Nat.le_of_ble_eq_true rfl⟩) hS (fun q _ h => hFc q h) hFc (fun r u t H1 locs ht hvm hw hB hz1 hk1 hS => ?_)
        obtain ⟨L1, w1, d1, st1, tg1, hi1, mi1, go1⟩ := u
        obtain ⟨f1, n1, hf1, hP1, hK1, hD1⟩ := hB
        rw [ht] at hP1
        have hw9 := hw
        obtain ⟨Lz_63, wz_63, dz_63, stz_63, tgz_63, hiz_63, miz_63, goz_63, fz_63, nz_63, hren9⟩ : ∃ Lz_63 wz_63 dz_63 stz_63 tgz_63 hiz_63 miz_63 goz_63 fz_63 nz_63, Lz_63 = L1 ∧ wz_63 = w1 ∧ dz_63 = d1 ∧ stz_63 = st1 ∧ tgz_63 = tg1 ∧ hiz_63 = hi1 ∧ miz_63 = mi1 ∧ goz_63 = go1 ∧ fz_63 = f1 ∧ nz_63 = n1 := ⟨_, _, _, _, _, _, _, _, _, _, rfl, rfl, rfl, rfl, rfl, rfl, rfl, rfl, rfl, rfl⟩
        obtain ⟨rfl, rfl, rfl, rfl, rfl, rfl, rfl, rfl, rfl, rfl⟩ := hren9
        have hfz_63 := hf1
        have hwz_63 := hw9
        obtain ⟨hP, hD⟩ := va_join (wr := (cx qx cax C Lz_62 fz_62 wz_62 dz_62 stz_62 tgz_62 hiz_62 miz_62 goz_62)) (w1 := (cm qm cam C fz_63 nz_63 wz_63 dz_63 stz_63 tgz_63 hiz_63 miz_63 goz_63)) hP hD [12, 13, 14, 15, 16, 17] [0, 1, 2, 3, 4, 5, 6, 7, 8, 9, 10, 11] rfl rfl (by decide) (by decide) hk1 hFc hP1 hD1
        generalize H1 = H at hP hS ⊢
        replace hP : va_P (dC, dI) vwCl ((cx qx cax C Lz_62 fz_62 wz_62 dz_62 stz_62 tgz_62 hiz_62 miz_62 goz_62) ++ (cm qm cam C fz_63 nz_63 wz_63 dz_63 stz_63 tgz_63 hiz_63 miz_63 goz_63)) H := hP
        replace hD : va_D A ((cx qx cax C Lz_62 fz_62 wz_62 dz_62 stz_62 tgz_62 hiz_62 miz_62 goz_62) ++ (cm qm cam C fz_63 nz_63 wz_63 dz_63 stz_63 tgz_63 hiz_63 miz_63 goz_63)) := hD
        obtain ⟨era9, eua9⟩ := hwz_62
        obtain ⟨erb9, eub9⟩ := hwz_63
        cases eua9
        cases eub9
        have err9 : rx = r := era9.trans erb9.symm
        refine lv_icmp_eq (tgt := 365) hx hb dL_law_360 (by decide) (fun c_360 => ?_) (fun c_360 => ?_)
        · skip
          refine lv_iinc (v := nI (i + 3)) (lv' := [(3, .int (nI (i + 3))), (0, .ref b), (1, .ref (qx 0)), (2, .ref (qm 0))]) hx hb dL_law_365 hl (k := 3) rfl (nI_add _ _) (by decide) rfl (fun ls hl => ?_)
          refine lv_goto (tgt := 28) hx hb dL_law_368 (by decide) ?_
          exact ih (i + 3) _ _ _ _ _ _ _ _ _ _ _ _ _ _ _ _ _ (by omega) hok hfz_62 hfz_63 hK hP hD hS _ (lv_sub hl [1, 2, 3, 0] rfl) (by omega)
        · skip
          exact absurd err9 c_360
      · skip
        refine lv_tableOut (tgt := 365) hx hb dL_law_42 (Or.inr (by decide)) (by decide) ?_
        refine lv_iinc (v := nI (i + 3)) (lv' := [(3, .int (nI (i + 3))), (0, .ref b), (1, .ref (qx 0)), (2, .ref (qm 0))]) hx hb dL_law_365 hl (k := 3) rfl (nI_add _ _) (by decide) rfl (fun ls hl => ?_)
        refine lv_goto (tgt := 28) hx hb dL_law_368 (by decide) ?_
        exact ih (i + 3) qx qm cax cam fx fm nm L w d st tg hi mi go _ _ (by omega) hok hfx hfm hK hP hD hS _ (lv_sub hl [1, 2, 3, 0] rfl) (by omega)
      · skip
        refine lv_tableOut (tgt := 365) hx hb dL_law_42 (Or.inr (by decide)) (by decide) ?_
        refine lv_iinc (v := nI (i + 3)) (lv' := [(3, .int (nI (i + 3))), (0, .ref b), (1, .ref (qx 0)), (2, .ref (qm 0))]) hx hb dL_law_365 hl (k := 3) rfl (nI_add _ _) (by decide) rfl (fun ls hl => ?_)
        refine lv_goto (tgt := 28) hx hb dL_law_368 (by decide) ?_
        exact ih (i + 3) qx qm cax cam fx fm nm L w d st tg hi mi go _ _ (by omega) hok hfx hfm hK hP hD hS _ (lv_sub hl [1, 2, 3, 0] rfl) (by omega)
      · skip
        refine lv_tableOut (tgt := 365) hx hb dL_law_42 (Or.inr (by decide)) (by decide) ?_
        refine lv_iinc (v := nI (i + 3)) (lv' := [(3, .int (nI (i + 3))), (0, .ref b), (1, .ref (qx 0)), (2, .ref (qm 0))]) hx hb dL_law_365 hl (k := 3) rfl (nI_add _ _) (by decide) rfl (fun ls hl => ?_)
        refine lv_goto (tgt := 28) hx hb dL_law_368 (by decide) ?_
        exact ih (i + 3) qx qm cax cam fx fm nm L w d st tg hi mi go _ _ (by omega) hok hfx hfm hK hP hD hS _ (lv_sub hl [1, 2, 3, 0] rfl) (by omega)
