/-! ===== the start ===== -/
def cellv (xs : Nat → Int32) (L d : Nat) : Int32 := if d < L then xs d else 0
abbrev w_rm_L_cell : Room := { frames := 0, cells := 0, slots := 0, locals := 0 }
set_option maxHeartbeats 4000000 in
theorem c_L_cell (l : Launch) (b0 L d : Nat) (xs : Nat → Int32) (hL : L ≤ 2051) (hd : d ≤ 3) (sz : Nat) : Met l yL_cell (Cond.code yL_cell cL_cell 2 (some .int) :: GT) w_rm_L_cell (va_Pc [.ref b0, .int (nI d)] (fun U => U.heap.size = sz ∧ va_X b0 L xs U U.heap ∧ b0 < sz)) (va_Qi (fun (r' : Int32) (_ : Unit) => r' = cellv xs L d) (fun _ _ => True) (fun q => sz ≤ q)) 0 0 (fun q => sz ≤ q) := by
  refine Met.ofW (cc := cL_cell) (maxL := 2) (ret := some .int) (by decide) rfl ?_
  intro p e s m args below meth c s₁ B hml hv
  obtain ⟨rfl, hsz, hX, hbl⟩ := hv
  have hx := B.exec
  have hb := B.bytes
  have hr := B.returns
  have hlocks := B.notSynchronized
  subst hsz
  have hS : va_S (fun q : Nat => s.heap.size ≤ q) s.heap s.heap [] := va_S.rf
  have hbA : ¬ (fun q : Nat => s.heap.size ≤ q) b0 := Nat.not_le.mpr hbl
  rw [lg_entry_eq]
  have hl := lv_entry [.ref b0, .int (nI d)] (n := 2) (Nat.le_of_ble_eq_true rfl)
  generalize (lg_sl [.ref b0, .int (nI d)] ++ List.replicate (2 - (lg_sl [.ref b0, .int (nI d)]).length) Slot.unset).toArray = ls at hl ⊢
  replace hl : lv_has ls 2 [(0, .ref b0), (1, .int (nI d))] := hl
  refine lv_iload_n hx hb dL_cell_0 rfl (lv_at hl 1 rfl) ?_
  refine lv_aload_n hx hb dL_cell_1 rfl (lv_at hl 0 rfl) ?_
  refine va_slen hx hb hX hbl hbA hS dL_cell_2 ?_
  refine lv_icmp_ge (tgt := 12) hx hb dL_cell_3 (by decide) (fun c1 => ?_) (fun c1 => ?_)
  · have h1 : ¬ d < L := fun h => nI_ge h (by omega) c1
    refine lv_iconst (v := 0) hx hb dL_cell_12 (by decide) ?_
    exact W.iret (v := 0) hx hb hr (fun t ht hW => ⟨⟨0, (), rfl, by unfold cellv; rw [if_neg h1], trivial⟩, hS.F ht⟩) hS.2.2 dL_cell_13
  · have h1 : d < L := Nat.lt_of_not_le (fun h => c1 (nI_le h (by omega)))
    refine lv_aload_n hx hb dL_cell_6 rfl (lv_at hl 0 rfl) ?_
    refine lv_iload_n hx hb dL_cell_7 rfl (lv_at hl 1 rfl) ?_
    refine va_sld hx hb hX hbl hbA hS (vp_in_nI h1 (by omega)) dL_cell_8 ?_
    refine lv_goto (tgt := 13) hx hb dL_cell_9 (by decide) ?_
    exact W.iret (v := xs (nI d).toNatClampNeg) hx hb hr (fun t ht hW => ⟨⟨_, (), rfl, by unfold cellv; rw [if_pos h1, nI_clamp (by omega)], trivial⟩, hS.F ht⟩) hS.2.2 dL_cell_13
set_option maxHeartbeats 4000000 in
theorem bCell {p : Program} {l : Launch} {e : Env} {s : State} {m : MethodId} {below : List Frame} {meth : Method} {c : Code} {G : va_G} {E : ClassId × ClassId × ClassId} {b0 L : Nat} {xs : Nat → Int32} (C : LX p s m c G E b0 L xs) (hL : L ≤ 2051) (d : Nat) (hd : d ≤ 3) {ws : va_W} {H : Heap} {locs : List Loc} {cells slots pc : Nat} {Q : State → Prop} {rest st : List Value} {ls : Array Slot} (hP : va_P G vwCl ws H) (hS : va_S (fun q : Nat => s.heap.size ≤ q) s.heap H locs) (hsize : ls.size = 7) (hstack : st = .int (nI d) :: .ref b0 :: rest) (hW : (rest.map fun v => v.category).sum ≤ 8) (hdg : decode code pc = .ok (.invokestatic 15, 3)) (hf : cells + 0 ≤ 601024 ∧ slots + 0 ≤ 7293000)
    (kk : ∀ (H1 : Heap) (locs1 : List Loc), va_P G vwCl ws H1 → va_S (fun q : Nat => s.heap.size ≤ q) s.heap H1 locs1 → W p l e room_1 s m #[Value.ref b0] below meth c H1 locs1 (cells + 0) (slots + 0) Q (F0 m (pc + 3) ls (.int (cellv xs L d) :: rest))) : W p l e room_1 s m #[Value.ref b0] below meth c H locs cells slots Q (F0 m pc ls st) := by
  obtain ⟨hx, hb, hml, hown, hts, hK, hX, hbl⟩ := C
  have hbA : ¬ (fun q : Nat => s.heap.size ≤ q) b0 := Nat.not_le.mpr hbl
  refine va_calli (va_runS (As := [.ref b0, .int (nI d)]) (rest := rest) ⟨hx, hb, hml, hown, hts⟩ (c_L_cell l b0 L d xs hL hd H.size) ⟨callB_of 2 hts (GT_c wd_8035d45d) rfl rfl rfl (hts _ wd_2ec6af59) (hts _ wd_a51d9277) (by decide +kernel) ⟨Nat.le_of_ble_eq_true rfl, Nat.le_of_ble_eq_true rfl⟩, hts _ wd_c0bf6bc9⟩ ⟨fun a U g mk q => ?_, fun U hU hW => ⟨rfl, by rw [hU], ?_, Nat.lt_of_lt_of_le hbl hS.1⟩⟩ rfl rfl hsize hstack (wsum_ hW) hdg hf) hS (fun q _ h => Nat.le_trans hS.1 h) (fun q h => Nat.le_trans hS.1 h) (fun r' u t H1 locs1 ht hvm hw hB hz1 hk1 hS1 => ?_)
  · obtain ⟨q0, q1, q2, q3⟩ := q
    exact ⟨q0, q1, va_X.moved (u := U) (U := U.calling g mk a) (Vm.Alike.refl U.vm) q2, q3⟩
  · rw [hU]
    exact va_X.moved hW.alike (hX.kept (hS.2.1 b0 hbl hbA))
  · rw [hw]
    exact kk H1 locs1 (hP.kept (fun k q hk => hk1 q.1 (hP k q hk).lt (by have := (hP k q hk).lt; omega))) hS1
theorem K_int {s : State} {args : Array Value} (h : (Cond.arrayClass .int).before args s = true) : ∃ c, ArrOfT s c .int ∧ va_RA s c .int := by
  obtain ⟨c, k, comp, h1, h2, h3⟩ := Cond.arrayClass_spec h
  exact ⟨c, fun n z => ⟨fun k h => (by cases h), k, h2, comp, h3⟩, h1⟩
theorem K_long {s : State} {args : Array Value} (h : (Cond.arrayClass .long).before args s = true) : ∃ c, ArrOfT s c .long ∧ va_RA s c .long := by
  obtain ⟨c, k, comp, h1, h2, h3⟩ := Cond.arrayClass_spec h
  exact ⟨c, fun n z => ⟨fun k h => (by cases h), k, h2, comp, h3⟩, h1⟩
theorem K_obj {s : State} {args : Array Value} {C : String} (h : (Cond.arrayOver (.object C)).before args s = true) : ∃ c, ArrOfT s c (.object C) ∧ va_RA s c (.object C) := by
  obtain ⟨comp, c, k, h1, h2, h3, h4, h5⟩ := Cond.arrayOver_spec h
  exact ⟨c, fun n z => ⟨fun k h => (by cases h), k, h3, comp, h4⟩, k, comp, h3, h4, h1, h5⟩
theorem nest_tbl : ∀ w ∈ nestW, w ∈ lw_tbl := by decide +kernel
theorem nest_on : ∀ w ∈ nestW, w.onTables = true := by decide +kernel
theorem throw_tbl : ∀ w ∈ throwW, w ∈ lw_tbl := by decide +kernel
theorem throw_on : ∀ w ∈ throwW, w.onTables = true := by decide +kernel
theorem over_tbl : Cond.arrayOver (.object RX1) ∈ lw_tbl := by decide +kernel
theorem KK_start {s : State} {args : Array Value} (hts : ∀ w ∈ lw_tbl, w.before args s = true) : ∃ (G : va_G) (E : ClassId × ClassId × ClassId), KK G E s := by
  have htg : ∀ w ∈ GT, w.before args s = true := fun w h => hts w (List.mem_filter.mp h).1
  obtain ⟨c0, i0, h0⟩ := u_known (C := RX0) (T := TX0) (N := 3) (n := 3) htg inG_X0 (htg _ wd_a909bd50)
  obtain ⟨c1, i1, h1⟩ := u_known (C := RX1) (T := TX1) (N := 7) (n := 7) htg inG_X1 (htg _ wd_643a6993)
  obtain ⟨c2, i2, h2⟩ := u_known (C := RX2) (T := TX2) (N := 4) (n := 4) htg inG_X2 (htg _ wd_779689bb)
  obtain ⟨c3, i3, h3⟩ := u_known (C := RX3) (T := TX3) (N := 10) (n := 10) htg inG_X3 (htg _ wd_1ca8b85a)
  obtain ⟨c4, i4, h4⟩ := u_known (C := RX4) (T := TX4) (N := 3) (n := 3) htg inG_X4 (htg _ wd_d459223f)
  obtain ⟨c5, i5, h5⟩ := u_known (C := RX5) (T := TX5) (N := 2) (n := 2) htg inG_X5 (htg _ wd_4287f489)
  obtain ⟨c6, i6, h6⟩ := u_known (C := RX7) (T := TX7) (N := 12) (n := 12) htg inG_X7 (htg _ wd_5379fcbf)
  obtain ⟨c7, i7, h7⟩ := u_known (C := RX8) (T := TX8) (N := 47) (n := 47) htg inG_X8 (htg _ wd_b0bee3fe)
  obtain ⟨cI, hI⟩ := K_int (htg _ wd_c201d5c8)
  obtain ⟨cJ, hJ⟩ := K_long (htg _ wd_2603678b)
  obtain ⟨cM, hM⟩ := K_obj (hts _ over_tbl)
  refine ⟨(fun k => [c0, c1, c2, c3, c4, c5, c6, c7].getD k c0, fun k => [i0, i1, i2, i3, i4, i5, i6, i7].getD k i0), (cI, cM, cJ), ⟨?_, ?_⟩, fun w hw => va_Nw.of (nest_on w hw) (hts w (nest_tbl w hw)), va_AO.of (hts _ over_tbl)⟩
  · intro k q hq
    match k, hq with
    | 0, hq => cases hq; exact h0
    | 1, hq => cases hq; exact h1
    | 2, hq => cases hq; exact h2
    | 3, hq => cases hq; exact h3
    | 4, hq => cases hq; exact h4
    | 5, hq => cases hq; exact h5
    | 6, hq => cases hq; exact h6
    | 7, hq => cases hq; exact h7
    | k + 8, hq => simp [vwCl] at hq
  · intro k q hq
    match k, hq with
    | 0, hq => cases hq; exact hI
    | 1, hq => cases hq; exact hM
    | 2, hq => cases hq; exact hJ
    | k + 3, hq => simp [ct] at hq
theorem str_tbl : Cond.stringRef RX7 110 "the stack is empty" ∈ lw_tbl := by decide +kernel
theorem us_tbl : Cond.laysStatic Bundle.tN "UNASSIGNED_STACK" Bundle.steD ∈ lw_tbl := by decide +kernel
theorem ss_tbl : Cond.laysStatic Bundle.tN "SUPPRESSED_SENTINEL" Bundle.listD ∈ lw_tbl := by decide +kernel
theorem ti_tbl : Cond.initialized Bundle.tN ∈ lw_tbl := by decide +kernel
theorem TK_start {s : State} {args : Array Value} (hts : ∀ w ∈ lw_tbl, w.before args s = true) (hgv : (Jvm.Cond.and given_1 narrow_1).before args s = true) : ∃ sa, TK (fun q : Nat => s.heap.size ≤ q) sa s s.heap := by
  have hs := flat_of_before _ hgv
  have h1 : (Cond.isRef (.static Bundle.tN "UNASSIGNED_STACK" Bundle.steD)).before args s = true := hs _ (by decide +kernel)
  have h2 : (Cond.isRef (.static Bundle.tN "SUPPRESSED_SENTINEL" Bundle.listD)).before args s = true := hs _ (by decide +kernel)
  have h3 : (Cond.exactly (.string "GlulxSaves" 110) "java/lang/String").before args s = true := hs _ (by decide +kernel)
  obtain ⟨sa, _, _, _, he, _⟩ := Cond.exactly_spec h3
  have hA : ∀ a : Nat, a < s.heap.size → ¬ (fun q : Nat => s.heap.size ≤ q) a := fun a h h2 => by omega
  exact ⟨sa, fun w hw => va_Nw.of (throw_on w hw) (hts w (throw_tbl w hw)), vx_Zqof (hts _ us_tbl) (hts _ ti_tbl) h1 hA, vx_Zqof (hts _ ss_tbl) (hts _ ti_tbl) h2 hA, vk_R.of (hts _ str_tbl) he⟩
