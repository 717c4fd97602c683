/-! ===== the law: pop, the loop, the start ===== -/
theorem P_as {G : va_G} {x y z : va_W} {H : Heap} (h : va_P G vwCl (x ++ (y ++ z)) H) : va_P G vwCl ((x ++ z) ++ y) H := ((P_l h).app (P_r (P_r h))).app (P_l (P_r h))
theorem P_sa {G : va_G} {x y z : va_W} {H : Heap} (h : va_P G vwCl ((x ++ z) ++ y) H) : va_P G vwCl (x ++ (y ++ z)) H := (P_l (P_l h)).app ((P_r h).app (P_r (P_l h)))
theorem D_as {A : Nat → Prop} {x y z : va_W} (h : va_D A (x ++ (y ++ z))) : va_D A ((x ++ z) ++ y) := by
  have h3 := D_3 h
  exact va_D.app (D_r h3) (D_l h3) (fun i j p q hi hj e => D_x h3 j i q p hj hi e.symm)
theorem D_sa {A : Nat → Prop} {x y z : va_W} (h : va_D A ((x ++ z) ++ y)) : va_D A (x ++ (y ++ z)) := by
  have h3 : va_D A (y ++ (x ++ z)) := va_D.app (D_r h) (D_l h) (fun i j p q hi hj e => D_x h j i q p hj hi e.symm)
  exact D_3 h3
set_option maxHeartbeats 4000000 in
/-- a call of the law's pop, on the first block -/
theorem bPop {p : Program} {l : Launch} {e : Env} {R : Room} {s : State} {m : MethodId} {args : Array Value} {below : List Frame} {meth : Method} {c : Code} {locs : List Loc} {cells slots : Nat} {Q : State → Prop} {G : va_G} {E : ClassId × ClassId × ClassId} {A : Nat → Prop} {x y : va_W} {H : Heap} {cc : ByteArray} {nL pc sa : Nat} {As rest st : List Value} {ls : Array Slot} {x1 : (Nat → Nat) → va_W} {r : Int32}
    (S : CallFix p m c cc nL s args GT RL) (hM : MP l G E sa As x r x1) (hR : w_rm_L_pop.frames + 1 ≤ R.frames ∧ 8 + (3 + 11) + w_rm_L_pop.locals ≤ R.locals) (hK : KK G E s) (hT : TK A sa s s.heap) (hP : va_P G vwCl (x ++ y) H) (hD : va_D A (x ++ y)) (hS : va_S A s.heap H locs) (hA : ∀ q, s.heap.size ≤ q → A q)
    (hnA : As.length = 2) (hsize : ls.size = nL) (hstack : st = As.reverse ++ rest) (hW : (rest.map fun v => v.category).sum ≤ 8) (hdg : decode cc pc = .ok (.invokestatic 45, 3)) (hf : cells + 1 ≤ R.cells ∧ slots + 6 ≤ R.slots)
    (kk : ∀ (H1 : Heap) (locs1 : List Loc) (a : Nat → Nat), va_P G vwCl (x1 a ++ y) H1 → va_D A (x1 a ++ y) → va_S A s.heap H1 locs1 → W p l e R s m args below meth c H1 locs1 (cells + 1) (slots + 6) Q (F0 m (pc + 3) ls (.int r :: rest))) : W p l e R s m args below meth c H locs cells slots Q (F0 m pc ls st) := by
  have hFc := blk_free hD hS hA
  have hts := S.2.2.2.2
  refine va_calli (vx_runSW (As := As) (rest := rest) S (hM H.size) ⟨⟨rfl, rfl, hR.1, hR.2, pay_in hts (GT_c wd_1d6ac684), List.mem_cons_self⟩, hts _ wd_1d6ac684, hts _ wd_2ec6af59, ⟨by decide +kernel, by decide +kernel⟩, fun sig h => ?_, hts _ wd_d9f448e4, hts _ wd_e7ef42c9⟩ ⟨PreT.blind, fun U hU hW => ⟨rfl, ⟨by rw [hU], by rw [hU]; exact P_l hP, KK.warm hW hK, (D_l hD).weaken (fun _ _ _ _ => trivial)⟩, by rw [hU]; exact TK.warm hW ((hT.kept hS.2.1).narrow hFc)⟩⟩ rfl hnA hsize hstack (wsum_ hW) hdg hf) hS (fun q _ h => hFc q h) hFc (fun r' u t H1 locs1 ht hvm hw hB hz1 hk1 hS1 => ?_)
  · have h2 : (parseMethodDescriptor yL_pop.desc).map (fun d => d.parameters.length) = some 2 := by decide +kernel
    rw [h] at h2
    exact (Option.some.inj h2).symm
  · obtain ⟨a, hP1, hD1⟩ := hB
    rw [ht] at hP1
    obtain ⟨hP2, hD2⟩ := blk_join hP hD hk1 hFc hP1 hD1
    rw [hw]
    exact kk H1 locs1 a hP2 hD2 hS1
theorem ofNat_nI (L : Nat) : Int32.ofNat L = nI L := rfl
set_option maxHeartbeats 4000000 in
/-- the loop's head -/
theorem lw_head {p : Program} {l : Launch} {e : Env} {s : State} {m : MethodId} {below : List Frame} {meth : Method} {c : Code} {G : va_G} {E : ClassId × ClassId × ClassId} {b0 L : Nat} {xs : Nat → Int32} (C : LX p s m c G E b0 L xs) {a b : Nat → Nat} {ho i : Nat} (hi : i ≤ 3000) (hL : L ≤ 2051) {cs ss : Nat} {H : Heap} {locs : List Loc} {ls : Array Slot} (hS : va_S (fun q : Nat => s.heap.size ≤ q) s.heap H locs) (hl : lv_has ls 7 [(0, .ref b0), (1, .ref (a 0)), (2, .ref (b 0)), (3, .ref ho), (4, .int (nI i))])
    (k1 : W p l e room_1 s m #[Value.ref b0] below meth c H locs cs ss (lw_Z below #[Value.ref b0] s) (F0 m 726 ls [])) (k2 : i + 3 < L → W p l e room_1 s m #[Value.ref b0] below meth c H locs cs ss (lw_Z below #[Value.ref b0] s) (F0 m 62 ls [])) : W p l e room_1 s m #[Value.ref b0] below meth c H locs cs ss (lw_Z below #[Value.ref b0] s) (F0 m 53 ls []) := by
  obtain ⟨hx, hb, hml, hown, hts, hK, hX, hbl⟩ := C
  have hbA : ¬ (fun q : Nat => s.heap.size ≤ q) b0 := Nat.not_le.mpr hbl
  refine lv_iload hx hb dL_law_53 (lv_at hl 4 rfl) ?_
  refine lv_aload_n hx hb dL_law_55 rfl (lv_at hl 0 rfl) ?_
  refine va_slen hx hb hX hbl hbA hS dL_law_56 ?_
  refine lv_iconst (v := nI 4) hx hb dL_law_57 (by decide) ?_
  refine lv_isub hx hb dL_law_58 ?_
  refine lv_icmp_gt (tgt := 726) hx hb dL_law_59 (by decide) (fun _ => k1) (fun c1 => k2 ?_)
  have h1 : ¬ (nI L - nI 4).toInt < (nI i).toInt := fun h => c1 (Int32.lt_iff_toInt_lt.mpr h)
  rw [pk_sub_toInt (by omega) (by omega), nI_toInt (by omega)] at h1
  omega
set_option maxHeartbeats 4000000 in
set_option maxRecDepth 100000 in
theorem lc_pop {p : Program} {l : Launch} {e : Env} {s : State} {m : MethodId} {below : List Frame} {meth : Method} {c : Code} {G : va_G} {E : ClassId × ClassId × ClassId} {b0 L : Nat} {xs : Nat → Int32} (C : LX p s m c G E b0 L xs) (hl0 : l.stackTraces = false) {sa : Nat} (hT : TK (fun q : Nat => s.heap.size ≤ q) sa s s.heap) (N : Nat) {Rl : (Nat → Int32) → (Nat → Nat → Int32) → (Nat → Int32) → (Nat → Nat → Int32) → Prop} (hpm : pm_pop Rl N) {a b : Nat → Nat} {I : Nat → Int32} {R : Nat → Nat → Int32} {J : Nat → Int32} {S : Nat → Nat → Int32} {ho : Nat} {f : Nat → Int64} {i : Nat} {cs ss : Nat} (hcs : cs + 1 ≤ 601024) (hss : ss + 6 ≤ 7293000) {H : Heap} {locs : List Loc} {ls : Array Slot} (hRl : Rl I R J S) (hP : va_P G vwCl (LW E a I R b J S ho f) H) (hD : va_D (fun q : Nat => s.heap.size ≤ q) (LW E a I R b J S ho f)) (hS : va_S (fun q : Nat => s.heap.size ≤ q) s.heap H locs) (hl : lv_has ls 7 [(0, .ref b0), (1, .ref (a 0)), (2, .ref (b 0)), (3, .ref ho), (4, .int (nI i))])
    (kk : ∀ (a b : Nat → Nat) (I : Nat → Int32) (R : Nat → Nat → Int32) (J : Nat → Int32) (S : Nat → Nat → Int32) (f : Nat → Int64) (H : Heap) (locs : List Loc) (ls : Array Slot), Rl I R J S → va_P G vwCl (LW E a I R b J S ho f) H → va_D (fun q : Nat => s.heap.size ≤ q) (LW E a I R b J S ho f) → va_S (fun q : Nat => s.heap.size ≤ q) s.heap H locs → lv_has ls 7 [(0, .ref b0), (1, .ref (a 0)), (2, .ref (b 0)), (3, .ref ho), (4, .int (nI i))] → W p l e room_1 s m #[Value.ref b0] below meth c H locs (cs + 1) (ss + 6) (lw_Z below #[Value.ref b0] s) (F0 m 720 ls [])) : W p l e room_1 s m #[Value.ref b0] below meth c H locs (cs) (ss) (lw_Z below #[Value.ref b0] s) (F0 m 280 ls []) := by
  obtain ⟨hx, hb, hml, hown, hts, hK, hX, hbl⟩ := C
  have hA : ∀ q : Nat, s.heap.size ≤ q → (fun q : Nat => s.heap.size ≤ q) q := fun _ h => h
  refine lv_aload_n hx hb dL_law_280 rfl (lv_at hl 1 rfl) ?_
  refine lv_aload_n hx hb dL_law_281 rfl (lv_at hl 3 rfl) ?_
  replace hP := P_as hP
  replace hD := D_as hD
  rcases hpm I R J S hRl with ⟨r, o0, q0, q1, h1, h2, h3, hR2⟩ | ⟨hd, r, q0, q1, h2, h3, hR2⟩
  · refine bPop (As := [.ref (a 0), .ref ho]) (rest := []) ⟨hx, hb, hml, hown, hts⟩ (c_L_popT l G E sa N a I R ho f r o0 h1) ⟨Nat.le_of_ble_eq_true rfl, Nat.le_of_ble_eq_true rfl⟩ hK hT hP hD hS hA rfl hl.1 rfl (Nat.le_of_ble_eq_true rfl) dL_law_282 ⟨hcs, hss⟩ (fun H locs a' hP hD hS => ?_)
    replace hP := P_3 (P_sa hP)
    replace hD := D_3 (D_sa hD)
    refine lv_istore (lv' := [(5, .int 0), (0, .ref b0), (1, .ref (a 0)), (2, .ref (b 0)), (3, .ref ho), (4, .int (nI i))]) hx hb dL_law_285 hl (by decide) rfl (fun ls hl => ?_)
    refine lv_aload_n hx hb dL_law_287 rfl (lv_at hl 3 rfl) ?_
    refine bVi (As := []) (rest := []) ⟨hx, hb, hml, hown, hts⟩ (k_X8_pop l G E N b J S r q0 q1 h2) ok_X8_pop okv_X8_pop wd_181860e5 ⟨Nat.le_of_ble_eq_true rfl, Nat.le_of_ble_eq_true rfl⟩ hK hP hD hS hA (va_recv hK.1 hP (ci := 7) (q0 := 0) rfl rfl) rfl hl.1 rfl (Nat.le_of_ble_eq_true rfl) dL_law_288 ⟨hcs, hss⟩ (fun H locs b' hP hD hS => ?_)
    refine lv_istore (lv' := [(6, .int r), (5, .int 0), (0, .ref b0), (1, .ref (a 0)), (2, .ref (b 0)), (3, .ref ho), (4, .int (nI i))]) hx hb dL_law_291 hl (by decide) rfl (fun ls hl => ?_)
    refine lv_aload_n hx hb dL_law_293 rfl (lv_at hl 4 rfl) ?_
    refine bVi (As := []) (rest := []) ⟨hx, hb, hml, hown, hts⟩ (k_X8_thrown l G E N (va_up b' 0 (b 0)) (va_up (va_up J 0 q0) 5 q1) S 0 (by rw [h3]; rfl)) ok_X8_thrown okv_X8_thrown wd_3b64303f ⟨Nat.le_of_ble_eq_true rfl, Nat.le_of_ble_eq_true rfl⟩ hK hP hD hS hA (va_recv hK.1 hP (ci := 7) (q0 := 0) rfl rfl) rfl hl.1 rfl (Nat.le_of_ble_eq_true rfl) dL_law_294 ⟨hcs, hss⟩ (fun H locs b'' hP hD hS => ?_)
    replace hP := P_3 hP
    replace hD := D_3 hD
    refine lv_iload hx hb dL_law_297 (lv_at hl 1 rfl) ?_
    refine lv_icmp_eq (tgt := 304) hx hb dL_law_299 (by decide) (fun _ => ?_) (fun c => absurd rfl c)
    refine lv_iload hx hb dL_law_304 (lv_at hl 1 rfl) ?_
    refine lv_if_ne (tgt := 321) hx hb dL_law_306 (by decide) (fun c => absurd rfl c) (fun _ => ?_)
    refine lv_aload_n hx hb dL_law_309 rfl (lv_at hl 5 rfl) ?_
    refine lv_iconst (v := 0) hx hb dL_law_310 (by decide) ?_
    refine va_lald (D := G) (q0 := 72) (t0 := 2) (cA := E.2.2) (n := 1) hx hb hK.1 hP rfl rfl (vp_in_nI (n := 0) (by decide) (by decide)) dL_law_311 ?_
    refine lv_iload hx hb dL_law_312 (lv_at hl 0 rfl) ?_
    refine lv_i2l (v := r.toInt64) hx hb dL_law_314 rfl ?_
    refine W.lcmp hx hb dL_law_315 ?_
    refine lv_if_eq (tgt := 321) hx hb dL_law_316 (by decide) (fun _ => ?_) (fun c => absurd ?_ c)
    · refine lv_goto (tgt := 720) hx hb dL_law_321 (by decide) ?_
      exact kk _ _ _ _ _ _ _ _ _ _ hR2 hP hD hS (lv_sub hl [2, 3, 4, 5, 6] rfl)
    · rw [pk_uLs]
      unfold lg_cmp
      rw [if_neg (fun h => Int64.lt_irrefl h), if_pos rfl]
  · refine bPop (As := [.ref (a 0), .ref ho]) (rest := []) ⟨hx, hb, hml, hown, hts⟩ (c_L_popF l hl0 G E sa a I R ho f hd) ⟨Nat.le_of_ble_eq_true rfl, Nat.le_of_ble_eq_true rfl⟩ hK hT hP hD hS hA rfl hl.1 rfl (Nat.le_of_ble_eq_true rfl) dL_law_282 ⟨hcs, hss⟩ (fun H locs a' hP hD hS => ?_)
    replace hP := P_3 (P_sa hP)
    replace hD := D_3 (D_sa hD)
    refine lv_istore (lv' := [(5, .int 1), (0, .ref b0), (1, .ref (a 0)), (2, .ref (b 0)), (3, .ref ho), (4, .int (nI i))]) hx hb dL_law_285 hl (by decide) rfl (fun ls hl => ?_)
    refine lv_aload_n hx hb dL_law_287 rfl (lv_at hl 3 rfl) ?_
    refine bVi (As := []) (rest := []) ⟨hx, hb, hml, hown, hts⟩ (k_X8_pop l G E N b J S r q0 q1 h2) ok_X8_pop okv_X8_pop wd_181860e5 ⟨Nat.le_of_ble_eq_true rfl, Nat.le_of_ble_eq_true rfl⟩ hK hP hD hS hA (va_recv hK.1 hP (ci := 7) (q0 := 0) rfl rfl) rfl hl.1 rfl (Nat.le_of_ble_eq_true rfl) dL_law_288 ⟨hcs, hss⟩ (fun H locs b' hP hD hS => ?_)
    refine lv_istore (lv' := [(6, .int r), (5, .int 1), (0, .ref b0), (1, .ref (a 0)), (2, .ref (b 0)), (3, .ref ho), (4, .int (nI i))]) hx hb dL_law_291 hl (by decide) rfl (fun ls hl => ?_)
    refine lv_aload_n hx hb dL_law_293 rfl (lv_at hl 4 rfl) ?_
    refine bVi (As := []) (rest := []) ⟨hx, hb, hml, hown, hts⟩ (k_X8_thrown l G E N (va_up b' 0 (b 0)) (va_up (va_up J 0 q0) 5 q1) S 1 (by rw [h3]; rfl)) ok_X8_thrown okv_X8_thrown wd_3b64303f ⟨Nat.le_of_ble_eq_true rfl, Nat.le_of_ble_eq_true rfl⟩ hK hP hD hS hA (va_recv hK.1 hP (ci := 7) (q0 := 0) rfl rfl) rfl hl.1 rfl (Nat.le_of_ble_eq_true rfl) dL_law_294 ⟨hcs, hss⟩ (fun H locs b'' hP hD hS => ?_)
    replace hP := P_3 hP
    replace hD := D_3 hD
    refine lv_iload hx hb dL_law_297 (lv_at hl 1 rfl) ?_
    refine lv_icmp_eq (tgt := 304) hx hb dL_law_299 (by decide) (fun _ => ?_) (fun c => absurd rfl c)
    refine lv_iload hx hb dL_law_304 (lv_at hl 1 rfl) ?_
    refine lv_if_ne (tgt := 321) hx hb dL_law_306 (by decide) (fun _ => ?_) (fun c => absurd c (by decide))
    refine lv_goto (tgt := 720) hx hb dL_law_321 (by decide) ?_
    exact kk _ _ _ _ _ _ _ _ _ _ hR2 hP hD hS (lv_sub hl [2, 3, 4, 5, 6] rfl)
