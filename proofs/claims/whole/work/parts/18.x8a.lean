def f_X8_in (j0 : Int64) (j2 : Int64) (j4 : Int64) : Option (Int32) :=
  if (lg_cmp j0 j2) < 0 then (
  some ((0 : Int32)))
  else
  if 0 < (lg_cmp j0 j4) then (
  some ((0 : Int32)))
  else
  some ((1 : Int32))
abbrev w_rm_X8_in : Room := { frames := 0, cells := 0, slots := 0, locals := 0 }
set_option maxHeartbeats 4000000 in
set_option maxRecDepth 100000 in
theorem c_X8_in (l : Launch) (G : va_G) (E : ClassId × ClassId × ClassId) (j0 : Int64) (j2 : Int64) (j4 : Int64) (r : Int32) (h : f_X8_in j0 j2 j4 = some (r)) : MI l G E yX8_in cX8_in 6 .boolean w_rm_X8_in [.long j0, .long j2, .long j4] [] r (fun a => []) 0 0 := by
  refine MI_of (by decide) (Nat.le_of_ble_eq_true rfl) ?_
  intro p e s m args below meth c A Q hx hb hml hown hts hK hA hP hD hS ret ls hl
  replace hl : lv_has ls 6 [(0, .long j0), (2, .long j2), (4, .long j4)] := hl
  unfold f_X8_in at h
  refine lv_lload_n hx hb dX8_in_0 rfl (lv_at hl 0 rfl) ?_
  refine lv_lload_n hx hb dX8_in_1 rfl (lv_at hl 1 rfl) ?_
  refine W.lcmp hx hb dX8_in_2 ?_
  refine lv_if_lt (tgt := 17) hx hb dX8_in_3 (by decide) (fun c1 => ?_) (fun c1 => ?_)
  · replace h := if_t h c1
    refine lv_iconst (v := 0) hx hb dX8_in_17 (by decide) ?_
    cases h
    exact ret _ _ _ _ _ (fun _ => 0) rfl rfl hP hD hS dX8_in_18
  · replace h := if_f h c1
    refine lv_lload_n hx hb dX8_in_6 rfl (lv_at hl 0 rfl) ?_
    refine lv_lload hx hb dX8_in_7 (lv_at hl 2 rfl) ?_
    refine W.lcmp hx hb dX8_in_9 ?_
    refine lv_if_gt (tgt := 17) hx hb dX8_in_10 (by decide) (fun c2 => ?_) (fun c2 => ?_)
    · replace h := if_t h c2
      refine lv_iconst (v := 0) hx hb dX8_in_17 (by decide) ?_
      cases h
      exact ret _ _ _ _ _ (fun _ => 0) rfl rfl hP hD hS dX8_in_18
    · replace h := if_f h c2
      refine lv_iconst (v := 1) hx hb dX8_in_13 (by decide) ?_
      refine lv_goto (tgt := 18) hx hb dX8_in_14 (by decide) ?_
      cases h
      exact ret _ _ _ _ _ (fun _ => 0) rfl rfl hP hD hS dX8_in_18
def f_X8_original (i1 : Int32) (p0_seed : Int32) (p0_end : Int32) : Option (Int32) :=
  if p0_end ≤ i1 then (
  some ((0 : Int32)))
  else
  some (((((37 : Int32) * i1) + (p0_seed * ((i1 / (16 : Int32)) + (1 : Int32)))) + (i1 / (7 : Int32))) &&& (255 : Int32))
abbrev w_rm_X8_original : Room := { frames := 0, cells := 0, slots := 0, locals := 0 }
set_option maxHeartbeats 4000000 in
set_option maxRecDepth 100000 in
theorem c_X8_original (l : Launch) (G : va_G) (E : ClassId × ClassId × ClassId) (hp0 : Nat) (p0_thrown : Int32) (p0_seed : Int32) (p0_ram : Int32) (p0_end : Int32) (p0_m : Int32) (hp0_memory : Nat) (p0_stackLong : Int32) (hp0_stack : Nat) (p0_blocks : Int32) (hp0_starts : Nat) (hp0_lengths : Nat) (p0_guardAt : Int32) (p0_guardLong : Int32) (p0_fileLong : Int32) (hp0_file : Nat) (p0_others : Int32) (hp0_otherName : Nat) (hp0_otherLong : Nat) (hp0_otherByte : Nat) (p0_wasFault : Int32) (p0_fault : Int32) (p0_faultAt : Int32) (p0_undos : Int32) (hp0_undoM : Nat) (hp0_undoMemory : Nat) (hp0_undoStackLong : Nat) (hp0_undoStack : Nat) (hp0_undoBlocks : Nat) (hp0_undoStarts : Nat) (hp0_undoLengths : Nat) (p0_made : Int32) (hp0_making : Nat) (p0_at : Int32) (p0_newM : Int32) (hp0_newMemory : Nat) (p0_newStackLong : Int32) (hp0_newStack : Nat) (p0_newBlocks : Int32) (hp0_newStarts : Nat) (hp0_newLengths : Nat) (p0_newOthers : Int32) (hp0_newName : Nat) (hp0_newLong : Nat) (hp0_newByte : Nat) (p0_came : Int32) (p0_now : Int32) (p0_nowAt : Int32) (i1 : Int32) (r : Int32) (h : f_X8_original i1 p0_seed p0_end = some (r)) : MI l G E yX8_original cX8_original 2 .int w_rm_X8_original [.ref hp0, .int i1] [(hp0, .inr (7, [.int p0_thrown, .int p0_seed, .int p0_ram, .int p0_end, .int p0_m, .ref hp0_memory, .int p0_stackLong, .ref hp0_stack, .int p0_blocks, .ref hp0_starts, .ref hp0_lengths, .int p0_guardAt, .int p0_guardLong, .int p0_fileLong, .ref hp0_file, .int p0_others, .ref hp0_otherName, .ref hp0_otherLong, .ref hp0_otherByte, .int p0_wasFault, .int p0_fault, .int p0_faultAt, .int p0_undos, .ref hp0_undoM, .ref hp0_undoMemory, .ref hp0_undoStackLong, .ref hp0_undoStack, .ref hp0_undoBlocks, .ref hp0_undoStarts, .ref hp0_undoLengths, .int p0_made, .ref hp0_making, .int p0_at, .int p0_newM, .ref hp0_newMemory, .int p0_newStackLong, .ref hp0_newStack, .int p0_newBlocks, .ref hp0_newStarts, .ref hp0_newLengths, .int p0_newOthers, .ref hp0_newName, .ref hp0_newLong, .ref hp0_newByte, .int p0_came, .int p0_now, .int p0_nowAt]))] r (fun a => [(hp0, .inr (7, [.int p0_thrown, .int p0_seed, .int p0_ram, .int p0_end, .int p0_m, .ref hp0_memory, .int p0_stackLong, .ref hp0_stack, .int p0_blocks, .ref hp0_starts, .ref hp0_lengths, .int p0_guardAt, .int p0_guardLong, .int p0_fileLong, .ref hp0_file, .int p0_others, .ref hp0_otherName, .ref hp0_otherLong, .ref hp0_otherByte, .int p0_wasFault, .int p0_fault, .int p0_faultAt, .int p0_undos, .ref hp0_undoM, .ref hp0_undoMemory, .ref hp0_undoStackLong, .ref hp0_undoStack, .ref hp0_undoBlocks, .ref hp0_undoStarts, .ref hp0_undoLengths, .int p0_made, .ref hp0_making, .int p0_at, .int p0_newM, .ref hp0_newMemory, .int p0_newStackLong, .ref hp0_newStack, .int p0_newBlocks, .ref hp0_newStarts, .ref hp0_newLengths, .int p0_newOthers, .ref hp0_newName, .ref hp0_newLong, .ref hp0_newByte, .int p0_came, .int p0_now, .int p0_nowAt]))]) 0 0 := by
  refine MI_of (by decide) (Nat.le_of_ble_eq_true rfl) ?_
  intro p e s m args below meth c A Q hx hb hml hown hts hK hA hP hD hS ret ls hl
  replace hl : lv_has ls 2 [(0, .ref hp0), (1, .int i1)] := hl
  unfold f_X8_original at h
  refine lv_iload_n hx hb dX8_original_0 rfl (lv_at hl 1 rfl) ?_
  refine lv_aload_n hx hb dX8_original_1 rfl (lv_at hl 0 rfl) ?_
  refine getF (D := G) (ci := 7) (v := .int p0_end) (C := RX8) (T := TX8) (N := 47) hx hb hts inG_X8 hown hK.1 hP 0 rfl rfl 3 (by decide) tf_X8_3 (hts _ wd_414b25af) rfl dX8_original_2 ?_
  refine lv_icmp_ge (tgt := 36) hx hb dX8_original_5 (by decide) (fun c1 => ?_) (fun c1 => ?_)
  · replace h := if_t h c1
    refine lv_iconst (v := 0) hx hb dX8_original_36 (by decide) ?_
    cases h
    exact ret _ _ _ _ _ (fun _ => 0) rfl rfl hP hD hS dX8_original_37
  · replace h := if_f h c1
    refine lv_bipush (v := 37) hx hb dX8_original_8 (by decide) ?_
    refine lv_iload_n hx hb dX8_original_10 rfl (lv_at hl 1 rfl) ?_
    refine lv_imul hx hb dX8_original_11 ?_
    refine lv_aload_n hx hb dX8_original_12 rfl (lv_at hl 0 rfl) ?_
    refine getF (D := G) (ci := 7) (v := .int p0_seed) (C := RX8) (T := TX8) (N := 47) hx hb hts inG_X8 hown hK.1 hP 0 rfl rfl 1 (by decide) tf_X8_1 (hts _ wd_11ab8888) rfl dX8_original_13 ?_
    refine lv_iload_n hx hb dX8_original_16 rfl (lv_at hl 1 rfl) ?_
    refine lv_bipush (v := 16) hx hb dX8_original_17 (by decide) ?_
    refine lv_idiv hx hb dX8_original_19 (by decide) ?_
    refine lv_iconst (v := 1) hx hb dX8_original_20 (by decide) ?_
    refine lv_iadd hx hb dX8_original_21 ?_
    refine lv_imul hx hb dX8_original_22 ?_
    refine lv_iadd hx hb dX8_original_23 ?_
    refine lv_iload_n hx hb dX8_original_24 rfl (lv_at hl 1 rfl) ?_
    refine lv_bipush (v := 7) hx hb dX8_original_25 (by decide) ?_
    refine lv_idiv hx hb dX8_original_27 (by decide) ?_
    refine lv_iadd hx hb dX8_original_28 ?_
    refine lv_sipush (v := 255) hx hb dX8_original_29 (by decide) ?_
    refine lv_iand hx hb dX8_original_32 ?_
    refine lv_goto (tgt := 37) hx hb dX8_original_33 (by decide) ?_
    cases h
    exact ret _ _ _ _ _ (fun _ => 0) rfl rfl hP hD hS dX8_original_37
def f_X8_isSize (i1 : Int32) (p0_end : Int32) : Option (Int32) :=
  bd (f_X8_in i1.toInt64 p0_end.toInt64 (512 : Int64)) fun u1 =>
  if u1 = 0 then (
  some ((0 : Int32)))
  else
  bn (i_rem i1 (32 : Int32)) fun x4 =>
  if x4 = 0 then (
  some ((1 : Int32)))
  else
  some ((0 : Int32))
abbrev w_rm_X8_isSize : Room := { frames := 1, cells := 0, slots := 0, locals := 25 }
set_option maxHeartbeats 4000000 in
set_option maxRecDepth 100000 in
theorem c_X8_isSize (l : Launch) (G : va_G) (E : ClassId × ClassId × ClassId) (hp0 : Nat) (p0_thrown : Int32) (p0_seed : Int32) (p0_ram : Int32) (p0_end : Int32) (p0_m : Int32) (hp0_memory : Nat) (p0_stackLong : Int32) (hp0_stack : Nat) (p0_blocks : Int32) (hp0_starts : Nat) (hp0_lengths : Nat) (p0_guardAt : Int32) (p0_guardLong : Int32) (p0_fileLong : Int32) (hp0_file : Nat) (p0_others : Int32) (hp0_otherName : Nat) (hp0_otherLong : Nat) (hp0_otherByte : Nat) (p0_wasFault : Int32) (p0_fault : Int32) (p0_faultAt : Int32) (p0_undos : Int32) (hp0_undoM : Nat) (hp0_undoMemory : Nat) (hp0_undoStackLong : Nat) (hp0_undoStack : Nat) (hp0_undoBlocks : Nat) (hp0_undoStarts : Nat) (hp0_undoLengths : Nat) (p0_made : Int32) (hp0_making : Nat) (p0_at : Int32) (p0_newM : Int32) (hp0_newMemory : Nat) (p0_newStackLong : Int32) (hp0_newStack : Nat) (p0_newBlocks : Int32) (hp0_newStarts : Nat) (hp0_newLengths : Nat) (p0_newOthers : Int32) (hp0_newName : Nat) (hp0_newLong : Nat) (hp0_newByte : Nat) (p0_came : Int32) (p0_now : Int32) (p0_nowAt : Int32) (i1 : Int32) (r : Int32) (h : f_X8_isSize i1 p0_end = some (r)) : MI l G E yX8_isSize cX8_isSize 2 .boolean w_rm_X8_isSize [.ref hp0, .int i1] [(hp0, .inr (7, [.int p0_thrown, .int p0_seed, .int p0_ram, .int p0_end, .int p0_m, .ref hp0_memory, .int p0_stackLong, .ref hp0_stack, .int p0_blocks, .ref hp0_starts, .ref hp0_lengths, .int p0_guardAt, .int p0_guardLong, .int p0_fileLong, .ref hp0_file, .int p0_others, .ref hp0_otherName, .ref hp0_otherLong, .ref hp0_otherByte, .int p0_wasFault, .int p0_fault, .int p0_faultAt, .int p0_undos, .ref hp0_undoM, .ref hp0_undoMemory, .ref hp0_undoStackLong, .ref hp0_undoStack, .ref hp0_undoBlocks, .ref hp0_undoStarts, .ref hp0_undoLengths, .int p0_made, .ref hp0_making, .int p0_at, .int p0_newM, .ref hp0_newMemory, .int p0_newStackLong, .ref hp0_newStack, .int p0_newBlocks, .ref hp0_newStarts, .ref hp0_newLengths, .int p0_newOthers, .ref hp0_newName, .ref hp0_newLong, .ref hp0_newByte, .int p0_came, .int p0_now, .int p0_nowAt]))] r (fun a => [(hp0, .inr (7, [.int p0_thrown, .int p0_seed, .int p0_ram, .int p0_end, .int p0_m, .ref hp0_memory, .int p0_stackLong, .ref hp0_stack, .int p0_blocks, .ref hp0_starts, .ref hp0_lengths, .int p0_guardAt, .int p0_guardLong, .int p0_fileLong, .ref hp0_file, .int p0_others, .ref hp0_otherName, .ref hp0_otherLong, .ref hp0_otherByte, .int p0_wasFault, .int p0_fault, .int p0_faultAt, .int p0_undos, .ref hp0_undoM, .ref hp0_undoMemory, .ref hp0_undoStackLong, .ref hp0_undoStack, .ref hp0_undoBlocks, .ref hp0_undoStarts, .ref hp0_undoLengths, .int p0_made, .ref hp0_making, .int p0_at, .int p0_newM, .ref hp0_newMemory, .int p0_newStackLong, .ref hp0_newStack, .int p0_newBlocks, .ref hp0_newStarts, .ref hp0_newLengths, .int p0_newOthers, .ref hp0_newName, .ref hp0_newLong, .ref hp0_newByte, .int p0_came, .int p0_now, .int p0_nowAt]))]) 0 0 := by
  refine MI_of (by decide) (Nat.le_of_ble_eq_true rfl) ?_
  intro p e s m args below meth c A Q hx hb hml hown hts hK hA hP hD hS ret ls hl
  replace hl : lv_has ls 2 [(0, .ref hp0), (1, .int i1)] := hl
  unfold f_X8_isSize at h
  refine lv_iload_n hx hb dX8_isSize_0 rfl (lv_at hl 1 rfl) ?_
  refine lv_i2l hx hb dX8_isSize_1 rfl ?_
  refine lv_aload_n hx hb dX8_isSize_2 rfl (lv_at hl 0 rfl) ?_
  refine getF (D := G) (ci := 7) (v := .int p0_end) (C := RX8) (T := TX8) (N := 47) hx hb hts inG_X8 hown hK.1 hP 0 rfl rfl 3 (by decide) tf_X8_3 (hts _ wd_414b25af) rfl dX8_isSize_3 ?_
  refine lv_i2l hx hb dX8_isSize_6 rfl ?_
  refine lv_ldc2 hx hb hown (hts _ wd_460a2223) dX8_isSize_7 ?_
  obtain ⟨u1, hu1, h⟩ := bd_t h
  refine cSi (wr := [(hp0, .inr (7, [.int p0_thrown, .int p0_seed, .int p0_ram, .int p0_end, .int p0_m, .ref hp0_memory, .int p0_stackLong, .ref hp0_stack, .int p0_blocks, .ref hp0_starts, .ref hp0_lengths, .int p0_guardAt, .int p0_guardLong, .int p0_fileLong, .ref hp0_file, .int p0_others, .ref hp0_otherName, .ref hp0_otherLong, .ref hp0_otherByte, .int p0_wasFault, .int p0_fault, .int p0_faultAt, .int p0_undos, .ref hp0_undoM, .ref hp0_undoMemory, .ref hp0_undoStackLong, .ref hp0_undoStack, .ref hp0_undoBlocks, .ref hp0_undoStarts, .ref hp0_undoLengths, .int p0_made, .ref hp0_making, .int p0_at, .int p0_newM, .ref hp0_newMemory, .int p0_newStackLong, .ref hp0_newStack, .int p0_newBlocks, .ref hp0_newStarts, .ref hp0_newLengths, .int p0_newOthers, .ref hp0_newName, .ref hp0_newLong, .ref hp0_newByte, .int p0_came, .int p0_now, .int p0_nowAt]))]) (As := [.long i1.toInt64, .long p0_end.toInt64, .long (512 : Int64)]) (rest := []) ⟨hx, hb, hml, hown, hts⟩ (c_X8_in l G E i1.toInt64 p0_end.toInt64 (512 : Int64) u1 hu1) ok_X8_in oks_X8_in wd_1cec0843 ⟨Nat.le_of_ble_eq_true rfl, Nat.le_of_ble_eq_true rfl⟩ hK hP hD hS hA [] [0] rfl rfl (by decide) (by decide) (by decide) rfl hl.1 rfl (Nat.le_of_ble_eq_true rfl) dX8_isSize_10 ⟨Nat.le_of_ble_eq_true rfl, Nat.le_of_ble_eq_true rfl⟩ (fun H locs a2 hP hD hS => ?_)
  have hP : va_P G vwCl [(hp0, .inr (7, [.int p0_thrown, .int p0_seed, .int p0_ram, .int p0_end, .int p0_m, .ref hp0_memory, .int p0_stackLong, .ref hp0_stack, .int p0_blocks, .ref hp0_starts, .ref hp0_lengths, .int p0_guardAt, .int p0_guardLong, .int p0_fileLong, .ref hp0_file, .int p0_others, .ref hp0_otherName, .ref hp0_otherLong, .ref hp0_otherByte, .int p0_wasFault, .int p0_fault, .int p0_faultAt, .int p0_undos, .ref hp0_undoM, .ref hp0_undoMemory, .ref hp0_undoStackLong, .ref hp0_undoStack, .ref hp0_undoBlocks, .ref hp0_undoStarts, .ref hp0_undoLengths, .int p0_made, .ref hp0_making, .int p0_at, .int p0_newM, .ref hp0_newMemory, .int p0_newStackLong, .ref hp0_newStack, .int p0_newBlocks, .ref hp0_newStarts, .ref hp0_newLengths, .int p0_newOthers, .ref hp0_newName, .ref hp0_newLong, .ref hp0_newByte, .int p0_came, .int p0_now, .int p0_nowAt]))] H := hP
  have hD : va_D A [(hp0, .inr (7, [.int p0_thrown, .int p0_seed, .int p0_ram, .int p0_end, .int p0_m, .ref hp0_memory, .int p0_stackLong, .ref hp0_stack, .int p0_blocks, .ref hp0_starts, .ref hp0_lengths, .int p0_guardAt, .int p0_guardLong, .int p0_fileLong, .ref hp0_file, .int p0_others, .ref hp0_otherName, .ref hp0_otherLong, .ref hp0_otherByte, .int p0_wasFault, .int p0_fault, .int p0_faultAt, .int p0_undos, .ref hp0_undoM, .ref hp0_undoMemory, .ref hp0_undoStackLong, .ref hp0_undoStack, .ref hp0_undoBlocks, .ref hp0_undoStarts, .ref hp0_undoLengths, .int p0_made, .ref hp0_making, .int p0_at, .int p0_newM, .ref hp0_newMemory, .int p0_newStackLong, .ref hp0_newStack, .int p0_newBlocks, .ref hp0_newStarts, .ref hp0_newLengths, .int p0_newOthers, .ref hp0_newName, .ref hp0_newLong, .ref hp0_newByte, .int p0_came, .int p0_now, .int p0_nowAt]))] := hD
  refine lv_if_eq (tgt := 27) hx hb dX8_isSize_13 (by decide) (fun c3 => ?_) (fun c3 => ?_)
  · replace h := if_t h c3
    refine lv_iconst (v := 0) hx hb dX8_isSize_27 (by decide) ?_
    cases h
    exact ret _ _ _ _ _ (fun _ => 0) rfl rfl hP hD hS dX8_isSize_28
  · replace h := if_f h c3
    refine lv_iload_n hx hb dX8_isSize_16 rfl (lv_at hl 1 rfl) ?_
    refine lv_bipush (v := 32) hx hb dX8_isSize_17 (by decide) ?_
    refine lv_irem hx hb dX8_isSize_19 (by decide) ?_
    refine lv_topi (fun x4 ex4 => ?_)
    replace h := bn_t h ex4
    refine lv_if_ne (tgt := 27) hx hb dX8_isSize_20 (by decide) (fun c5 => ?_) (fun c5 => ?_)
    · replace h := if_f h c5
      refine lv_iconst (v := 0) hx hb dX8_isSize_27 (by decide) ?_
      cases h
      exact ret _ _ _ _ _ (fun _ => 0) rfl rfl hP hD hS dX8_isSize_28
    · replace h := if_t h c5
      refine lv_iconst (v := 1) hx hb dX8_isSize_23 (by decide) ?_
      refine lv_goto (tgt := 28) hx hb dX8_isSize_24 (by decide) ?_
      cases h
      exact ret _ _ _ _ _ (fun _ => 0) rfl rfl hP hD hS dX8_isSize_28
def f_X8_thrown (p0_thrown : Int32) : Option (Int32) :=
  some (p0_thrown)
abbrev w_rm_X8_thrown : Room := { frames := 0, cells := 0, slots := 0, locals := 0 }
set_option maxHeartbeats 4000000 in
set_option maxRecDepth 100000 in
theorem c_X8_thrown (l : Launch) (G : va_G) (E : ClassId × ClassId × ClassId) (hp0 : Nat) (p0_thrown : Int32) (p0_seed : Int32) (p0_ram : Int32) (p0_end : Int32) (p0_m : Int32) (hp0_memory : Nat) (p0_stackLong : Int32) (hp0_stack : Nat) (p0_blocks : Int32) (hp0_starts : Nat) (hp0_lengths : Nat) (p0_guardAt : Int32) (p0_guardLong : Int32) (p0_fileLong : Int32) (hp0_file : Nat) (p0_others : Int32) (hp0_otherName : Nat) (hp0_otherLong : Nat) (hp0_otherByte : Nat) (p0_wasFault : Int32) (p0_fault : Int32) (p0_faultAt : Int32) (p0_undos : Int32) (hp0_undoM : Nat) (hp0_undoMemory : Nat) (hp0_undoStackLong : Nat) (hp0_undoStack : Nat) (hp0_undoBlocks : Nat) (hp0_undoStarts : Nat) (hp0_undoLengths : Nat) (p0_made : Int32) (hp0_making : Nat) (p0_at : Int32) (p0_newM : Int32) (hp0_newMemory : Nat) (p0_newStackLong : Int32) (hp0_newStack : Nat) (p0_newBlocks : Int32) (hp0_newStarts : Nat) (hp0_newLengths : Nat) (p0_newOthers : Int32) (hp0_newName : Nat) (hp0_newLong : Nat) (hp0_newByte : Nat) (p0_came : Int32) (p0_now : Int32) (p0_nowAt : Int32) (r : Int32) (h : f_X8_thrown p0_thrown = some (r)) : MI l G E yX8_thrown cX8_thrown 1 .int w_rm_X8_thrown [.ref hp0] [(hp0, .inr (7, [.int p0_thrown, .int p0_seed, .int p0_ram, .int p0_end, .int p0_m, .ref hp0_memory, .int p0_stackLong, .ref hp0_stack, .int p0_blocks, .ref hp0_starts, .ref hp0_lengths, .int p0_guardAt, .int p0_guardLong, .int p0_fileLong, .ref hp0_file, .int p0_others, .ref hp0_otherName, .ref hp0_otherLong, .ref hp0_otherByte, .int p0_wasFault, .int p0_fault, .int p0_faultAt, .int p0_undos, .ref hp0_undoM, .ref hp0_undoMemory, .ref hp0_undoStackLong, .ref hp0_undoStack, .ref hp0_undoBlocks, .ref hp0_undoStarts, .ref hp0_undoLengths, .int p0_made, .ref hp0_making, .int p0_at, .int p0_newM, .ref hp0_newMemory, .int p0_newStackLong, .ref hp0_newStack, .int p0_newBlocks, .ref hp0_newStarts, .ref hp0_newLengths, .int p0_newOthers, .ref hp0_newName, .ref hp0_newLong, .ref hp0_newByte, .int p0_came, .int p0_now, .int p0_nowAt]))] r (fun a => [(hp0, .inr (7, [.int p0_thrown, .int p0_seed, .int p0_ram, .int p0_end, .int p0_m, .ref hp0_memory, .int p0_stackLong, .ref hp0_stack, .int p0_blocks, .ref hp0_starts, .ref hp0_lengths, .int p0_guardAt, .int p0_guardLong, .int p0_fileLong, .ref hp0_file, .int p0_others, .ref hp0_otherName, .ref hp0_otherLong, .ref hp0_otherByte, .int p0_wasFault, .int p0_fault, .int p0_faultAt, .int p0_undos, .ref hp0_undoM, .ref hp0_undoMemory, .ref hp0_undoStackLong, .ref hp0_undoStack, .ref hp0_undoBlocks, .ref hp0_undoStarts, .ref hp0_undoLengths, .int p0_made, .ref hp0_making, .int p0_at, .int p0_newM, .ref hp0_newMemory, .int p0_newStackLong, .ref hp0_newStack, .int p0_newBlocks, .ref hp0_newStarts, .ref hp0_newLengths, .int p0_newOthers, .ref hp0_newName, .ref hp0_newLong, .ref hp0_newByte, .int p0_came, .int p0_now, .int p0_nowAt]))]) 0 0 := by
  refine MI_of (by decide) (Nat.le_of_ble_eq_true rfl) ?_
  intro p e s m args below meth c A Q hx hb hml hown hts hK hA hP hD hS ret ls hl
  replace hl : lv_has ls 1 [(0, .ref hp0)] := hl
  unfold f_X8_thrown at h
  refine lv_aload_n hx hb dX8_thrown_0 rfl (lv_at hl 0 rfl) ?_
  refine getF (D := G) (ci := 7) (v := .int p0_thrown) (C := RX8) (T := TX8) (N := 47) hx hb hts inG_X8 hown hK.1 hP 0 rfl rfl 0 (by decide) tf_X8_0 (hts _ wd_d7e2667f) rfl dX8_thrown_1 ?_
  cases h
  exact ret _ _ _ _ _ (fun _ => 0) rfl rfl hP hD hS dX8_thrown_4
def f_X8_peek (i1 : Int32) (p0_m : Int32) (p0_memory : (Nat → Int32)) : Option (Int32 × Int32) :=
  bd (f_X8_in i1.toInt64 (0 : Int64) ((p0_m - (1 : Int32)).toInt64)) fun u1 =>
  if u1 = 0 then (
  some ((-1 : Int32), (0 : Int32)))
  else
  gin i1 512 <|
  some (p0_memory i1.toNatClampNeg, (0 : Int32))
abbrev w_rm_X8_peek : Room := { frames := 1, cells := 0, slots := 0, locals := 25 }
set_option maxHeartbeats 4000000 in
set_option maxRecDepth 100000 in
theorem c_X8_peek (l : Launch) (G : va_G) (E : ClassId × ClassId × ClassId) (hp0 : Nat) (p0_thrown : Int32) (p0_seed : Int32) (p0_ram : Int32) (p0_end : Int32) (p0_m : Int32) (hp0_memory : Nat) (p0_stackLong : Int32) (hp0_stack : Nat) (p0_blocks : Int32) (hp0_starts : Nat) (hp0_lengths : Nat) (p0_guardAt : Int32) (p0_guardLong : Int32) (p0_fileLong : Int32) (hp0_file : Nat) (p0_others : Int32) (hp0_otherName : Nat) (hp0_otherLong : Nat) (hp0_otherByte : Nat) (p0_wasFault : Int32) (p0_fault : Int32) (p0_faultAt : Int32) (p0_undos : Int32) (hp0_undoM : Nat) (hp0_undoMemory : Nat) (hp0_undoStackLong : Nat) (hp0_undoStack : Nat) (hp0_undoBlocks : Nat) (hp0_undoStarts : Nat) (hp0_undoLengths : Nat) (p0_made : Int32) (hp0_making : Nat) (p0_at : Int32) (p0_newM : Int32) (hp0_newMemory : Nat) (p0_newStackLong : Int32) (hp0_newStack : Nat) (p0_newBlocks : Int32) (hp0_newStarts : Nat) (hp0_newLengths : Nat) (p0_newOthers : Int32) (hp0_newName : Nat) (hp0_newLong : Nat) (hp0_newByte : Nat) (p0_came : Int32) (p0_now : Int32) (p0_nowAt : Int32) (p0_memory : (Nat → Int32)) (i1 : Int32) (r : Int32) (o0 : Int32) (h : f_X8_peek i1 p0_m p0_memory = some (r, o0)) : MI l G E yX8_peek cX8_peek 2 .int w_rm_X8_peek [.ref hp0, .int i1] [(hp0, .inr (7, [.int p0_thrown, .int p0_seed, .int p0_ram, .int p0_end, .int p0_m, .ref hp0_memory, .int p0_stackLong, .ref hp0_stack, .int p0_blocks, .ref hp0_starts, .ref hp0_lengths, .int p0_guardAt, .int p0_guardLong, .int p0_fileLong, .ref hp0_file, .int p0_others, .ref hp0_otherName, .ref hp0_otherLong, .ref hp0_otherByte, .int p0_wasFault, .int p0_fault, .int p0_faultAt, .int p0_undos, .ref hp0_undoM, .ref hp0_undoMemory, .ref hp0_undoStackLong, .ref hp0_undoStack, .ref hp0_undoBlocks, .ref hp0_undoStarts, .ref hp0_undoLengths, .int p0_made, .ref hp0_making, .int p0_at, .int p0_newM, .ref hp0_newMemory, .int p0_newStackLong, .ref hp0_newStack, .int p0_newBlocks, .ref hp0_newStarts, .ref hp0_newLengths, .int p0_newOthers, .ref hp0_newName, .ref hp0_newLong, .ref hp0_newByte, .int p0_came, .int p0_now, .int p0_nowAt])), (hp0_memory, .inl (E.1, 512, .inl p0_memory))] r (fun a => [(hp0, .inr (7, [.int o0, .int p0_seed, .int p0_ram, .int p0_end, .int p0_m, .ref hp0_memory, .int p0_stackLong, .ref hp0_stack, .int p0_blocks, .ref hp0_starts, .ref hp0_lengths, .int p0_guardAt, .int p0_guardLong, .int p0_fileLong, .ref hp0_file, .int p0_others, .ref hp0_otherName, .ref hp0_otherLong, .ref hp0_otherByte, .int p0_wasFault, .int p0_fault, .int p0_faultAt, .int p0_undos, .ref hp0_undoM, .ref hp0_undoMemory, .ref hp0_undoStackLong, .ref hp0_undoStack, .ref hp0_undoBlocks, .ref hp0_undoStarts, .ref hp0_undoLengths, .int p0_made, .ref hp0_making, .int p0_at, .int p0_newM, .ref hp0_newMemory, .int p0_newStackLong, .ref hp0_newStack, .int p0_newBlocks, .ref hp0_newStarts, .ref hp0_newLengths, .int p0_newOthers, .ref hp0_newName, .ref hp0_newLong, .ref hp0_newByte, .int p0_came, .int p0_now, .int p0_nowAt])), (hp0_memory, .inl (E.1, 512, .inl p0_memory))]) 0 0 := by
  refine MI_of (by decide) (Nat.le_of_ble_eq_true rfl) ?_
  intro p e s m args below meth c A Q hx hb hml hown hts hK hA hP hD hS ret ls hl
  replace hl : lv_has ls 2 [(0, .ref hp0), (1, .int i1)] := hl
  unfold f_X8_peek at h
  refine lv_aload_n hx hb dX8_peek_0 rfl (lv_at hl 0 rfl) ?_
  refine lv_iconst (v := 0) hx hb dX8_peek_1 (by decide) ?_
  refine putF (D := G) (ci := 7) (v := .int (0 : Int32)) (ty := .int) (C := RX8) (T := TX8) (N := 47) hx hb hts inG_X8 tyX8 tyX8_ok nmX8 hown hK.1 hP hD hS 0 rfl rfl 0 (by decide) tf_X8_0 (hts _ wd_d7e2667f) pd_I rfl rfl (Nat.le_of_ble_eq_true rfl) dX8_peek_2 (fun H locs hP hD hS => ?_)
  have hP : va_P G vwCl [(hp0, .inr (7, [.int (0 : Int32), .int p0_seed, .int p0_ram, .int p0_end, .int p0_m, .ref hp0_memory, .int p0_stackLong, .ref hp0_stack, .int p0_blocks, .ref hp0_starts, .ref hp0_lengths, .int p0_guardAt, .int p0_guardLong, .int p0_fileLong, .ref hp0_file, .int p0_others, .ref hp0_otherName, .ref hp0_otherLong, .ref hp0_otherByte, .int p0_wasFault, .int p0_fault, .int p0_faultAt, .int p0_undos, .ref hp0_undoM, .ref hp0_undoMemory, .ref hp0_undoStackLong, .ref hp0_undoStack, .ref hp0_undoBlocks, .ref hp0_undoStarts, .ref hp0_undoLengths, .int p0_made, .ref hp0_making, .int p0_at, .int p0_newM, .ref hp0_newMemory, .int p0_newStackLong, .ref hp0_newStack, .int p0_newBlocks, .ref hp0_newStarts, .ref hp0_newLengths, .int p0_newOthers, .ref hp0_newName, .ref hp0_newLong, .ref hp0_newByte, .int p0_came, .int p0_now, .int p0_nowAt])), (hp0_memory, .inl (E.1, 512, .inl p0_memory))] H := hP
  have hD : va_D A [(hp0, .inr (7, [.int (0 : Int32), .int p0_seed, .int p0_ram, .int p0_end, .int p0_m, .ref hp0_memory, .int p0_stackLong, .ref hp0_stack, .int p0_blocks, .ref hp0_starts, .ref hp0_lengths, .int p0_guardAt, .int p0_guardLong, .int p0_fileLong, .ref hp0_file, .int p0_others, .ref hp0_otherName, .ref hp0_otherLong, .ref hp0_otherByte, .int p0_wasFault, .int p0_fault, .int p0_faultAt, .int p0_undos, .ref hp0_undoM, .ref hp0_undoMemory, .ref hp0_undoStackLong, .ref hp0_undoStack, .ref hp0_undoBlocks, .ref hp0_undoStarts, .ref hp0_undoLengths, .int p0_made, .ref hp0_making, .int p0_at, .int p0_newM, .ref hp0_newMemory, .int p0_newStackLong, .ref hp0_newStack, .int p0_newBlocks, .ref hp0_newStarts, .ref hp0_newLengths, .int p0_newOthers, .ref hp0_newName, .ref hp0_newLong, .ref hp0_newByte, .int p0_came, .int p0_now, .int p0_nowAt])), (hp0_memory, .inl (E.1, 512, .inl p0_memory))] := hD
  refine lv_iload_n hx hb dX8_peek_5 rfl (lv_at hl 1 rfl) ?_
  refine lv_i2l hx hb dX8_peek_6 rfl ?_
  refine lv_lconst (v := 0) hx hb dX8_peek_7 (by decide) ?_
  refine lv_aload_n hx hb dX8_peek_8 rfl (lv_at hl 0 rfl) ?_
  refine getF (D := G) (ci := 7) (v := .int p0_m) (C := RX8) (T := TX8) (N := 47) hx hb hts inG_X8 hown hK.1 hP 0 rfl rfl 4 (by decide) tf_X8_4 (hts _ wd_6aa62c5a) rfl dX8_peek_9 ?_
  refine lv_iconst (v := 1) hx hb dX8_peek_12 (by decide) ?_
  refine lv_isub hx hb dX8_peek_13 ?_
  refine lv_i2l hx hb dX8_peek_14 rfl ?_
  obtain ⟨u1, hu1, h⟩ := bd_t h
  refine cSi (wr := [(hp0, .inr (7, [.int (0 : Int32), .int p0_seed, .int p0_ram, .int p0_end, .int p0_m, .ref hp0_memory, .int p0_stackLong, .ref hp0_stack, .int p0_blocks, .ref hp0_starts, .ref hp0_lengths, .int p0_guardAt, .int p0_guardLong, .int p0_fileLong, .ref hp0_file, .int p0_others, .ref hp0_otherName, .ref hp0_otherLong, .ref hp0_otherByte, .int p0_wasFault, .int p0_fault, .int p0_faultAt, .int p0_undos, .ref hp0_undoM, .ref hp0_undoMemory, .ref hp0_undoStackLong, .ref hp0_undoStack, .ref hp0_undoBlocks, .ref hp0_undoStarts, .ref hp0_undoLengths, .int p0_made, .ref hp0_making, .int p0_at, .int p0_newM, .ref hp0_newMemory, .int p0_newStackLong, .ref hp0_newStack, .int p0_newBlocks, .ref hp0_newStarts, .ref hp0_newLengths, .int p0_newOthers, .ref hp0_newName, .ref hp0_newLong, .ref hp0_newByte, .int p0_came, .int p0_now, .int p0_nowAt])), (hp0_memory, .inl (E.1, 512, .inl p0_memory))]) (As := [.long i1.toInt64, .long (0 : Int64), .long ((p0_m - (1 : Int32)).toInt64)]) (rest := []) ⟨hx, hb, hml, hown, hts⟩ (c_X8_in l G E i1.toInt64 (0 : Int64) ((p0_m - (1 : Int32)).toInt64) u1 hu1) ok_X8_in oks_X8_in wd_1cec0843 ⟨Nat.le_of_ble_eq_true rfl, Nat.le_of_ble_eq_true rfl⟩ hK hP hD hS hA [] [0, 1] rfl rfl (by decide) (by decide) (by decide) rfl hl.1 rfl (Nat.le_of_ble_eq_true rfl) dX8_peek_15 ⟨Nat.le_of_ble_eq_true rfl, Nat.le_of_ble_eq_true rfl⟩ (fun H locs a2 hP hD hS => ?_)
  have hP : va_P G vwCl [(hp0, .inr (7, [.int (0 : Int32), .int p0_seed, .int p0_ram, .int p0_end, .int p0_m, .ref hp0_memory, .int p0_stackLong, .ref hp0_stack, .int p0_blocks, .ref hp0_starts, .ref hp0_lengths, .int p0_guardAt, .int p0_guardLong, .int p0_fileLong, .ref hp0_file, .int p0_others, .ref hp0_otherName, .ref hp0_otherLong, .ref hp0_otherByte, .int p0_wasFault, .int p0_fault, .int p0_faultAt, .int p0_undos, .ref hp0_undoM, .ref hp0_undoMemory, .ref hp0_undoStackLong, .ref hp0_undoStack, .ref hp0_undoBlocks, .ref hp0_undoStarts, .ref hp0_undoLengths, .int p0_made, .ref hp0_making, .int p0_at, .int p0_newM, .ref hp0_newMemory, .int p0_newStackLong, .ref hp0_newStack, .int p0_newBlocks, .ref hp0_newStarts, .ref hp0_newLengths, .int p0_newOthers, .ref hp0_newName, .ref hp0_newLong, .ref hp0_newByte, .int p0_came, .int p0_now, .int p0_nowAt])), (hp0_memory, .inl (E.1, 512, .inl p0_memory))] H := hP
  have hD : va_D A [(hp0, .inr (7, [.int (0 : Int32), .int p0_seed, .int p0_ram, .int p0_end, .int p0_m, .ref hp0_memory, .int p0_stackLong, .ref hp0_stack, .int p0_blocks, .ref hp0_starts, .ref hp0_lengths, .int p0_guardAt, .int p0_guardLong, .int p0_fileLong, .ref hp0_file, .int p0_others, .ref hp0_otherName, .ref hp0_otherLong, .ref hp0_otherByte, .int p0_wasFault, .int p0_fault, .int p0_faultAt, .int p0_undos, .ref hp0_undoM, .ref hp0_undoMemory, .ref hp0_undoStackLong, .ref hp0_undoStack, .ref hp0_undoBlocks, .ref hp0_undoStarts, .ref hp0_undoLengths, .int p0_made, .ref hp0_making, .int p0_at, .int p0_newM, .ref hp0_newMemory, .int p0_newStackLong, .ref hp0_newStack, .int p0_newBlocks, .ref hp0_newStarts, .ref hp0_newLengths, .int p0_newOthers, .ref hp0_newName, .ref hp0_newLong, .ref hp0_newByte, .int p0_came, .int p0_now, .int p0_nowAt])), (hp0_memory, .inl (E.1, 512, .inl p0_memory))] := hD
  refine lv_if_eq (tgt := 30) hx hb dX8_peek_18 (by decide) (fun c3 => ?_) (fun c3 => ?_)
  · replace h := if_t h c3
    refine lv_iconst (v := (-1)) hx hb dX8_peek_30 (by decide) ?_
    cases h
    exact ret _ _ _ _ _ (fun _ => 0) rfl rfl hP hD hS dX8_peek_31
  · replace h := if_f h c3
    refine lv_aload_n hx hb dX8_peek_21 rfl (lv_at hl 0 rfl) ?_
    refine getF (D := G) (ci := 7) (v := .ref hp0_memory) (C := RX8) (T := TX8) (N := 47) hx hb hts inG_X8 hown hK.1 hP 0 rfl rfl 5 (by decide) tf_X8_5 (hts _ wd_adbb6bd5) rfl dX8_peek_22 ?_
    refine lv_iload_n hx hb dX8_peek_25 rfl (lv_at hl 1 rfl) ?_
    obtain ⟨g4, h⟩ := gin_t h
    refine va_iald hx hb hK.1 hP 1 0 rfl rfl g4 dX8_peek_26 ?_
    refine lv_goto (tgt := 31) hx hb dX8_peek_27 (by decide) ?_
    cases h
    exact ret _ _ _ _ _ (fun _ => 0) rfl rfl hP hD hS dX8_peek_31
def f_X8_poke (i1 : Int32) (i2 : Int32) (p0_ram : Int32) (p0_m : Int32) (p0_memory : (Nat → Int32)) : Option (Int32 × Int32 × (Nat → Int32)) :=
  bd (f_X8_in i1.toInt64 p0_ram.toInt64 ((p0_m - (1 : Int32)).toInt64)) fun u1 =>
  if u1 = 0 then (
  some ((-1 : Int32), (0 : Int32), p0_memory))
  else
  bd (f_X8_in i2.toInt64 (0 : Int64) (255 : Int64)) fun u4 =>
  if u4 = 0 then (
  some ((-2 : Int32), (0 : Int32), p0_memory))
  else
  gin i1 512 <|
  bn (p0_memory i1.toNatClampNeg) fun x8 =>
  gin i1 512 <|
  bn (upd p0_memory i1.toNatClampNeg i2) fun m10 =>
  some (x8, (0 : Int32), m10)
abbrev w_rm_X8_poke : Room := { frames := 1, cells := 0, slots := 0, locals := 25 }
set_option maxHeartbeats 4000000 in
set_option maxRecDepth 100000 in
theorem c_X8_poke (l : Launch) (G : va_G) (E : ClassId × ClassId × ClassId) (hp0 : Nat) (p0_thrown : Int32) (p0_seed : Int32) (p0_ram : Int32) (p0_end : Int32) (p0_m : Int32) (hp0_memory : Nat) (p0_stackLong : Int32) (hp0_stack : Nat) (p0_blocks : Int32) (hp0_starts : Nat) (hp0_lengths : Nat) (p0_guardAt : Int32) (p0_guardLong : Int32) (p0_fileLong : Int32) (hp0_file : Nat) (p0_others : Int32) (hp0_otherName : Nat) (hp0_otherLong : Nat) (hp0_otherByte : Nat) (p0_wasFault : Int32) (p0_fault : Int32) (p0_faultAt : Int32) (p0_undos : Int32) (hp0_undoM : Nat) (hp0_undoMemory : Nat) (hp0_undoStackLong : Nat) (hp0_undoStack : Nat) (hp0_undoBlocks : Nat) (hp0_undoStarts : Nat) (hp0_undoLengths : Nat) (p0_made : Int32) (hp0_making : Nat) (p0_at : Int32) (p0_newM : Int32) (hp0_newMemory : Nat) (p0_newStackLong : Int32) (hp0_newStack : Nat) (p0_newBlocks : Int32) (hp0_newStarts : Nat) (hp0_newLengths : Nat) (p0_newOthers : Int32) (hp0_newName : Nat) (hp0_newLong : Nat) (hp0_newByte : Nat) (p0_came : Int32) (p0_now : Int32) (p0_nowAt : Int32) (p0_memory : (Nat → Int32)) (i1 : Int32) (i2 : Int32) (r : Int32) (o0 : Int32) (o1 : (Nat → Int32)) (h : f_X8_poke i1 i2 p0_ram p0_m p0_memory = some (r, o0, o1)) : MI l G E yX8_poke cX8_poke 4 .int w_rm_X8_poke [.ref hp0, .int i1, .int i2] [(hp0, .inr (7, [.int p0_thrown, .int p0_seed, .int p0_ram, .int p0_end, .int p0_m, .ref hp0_memory, .int p0_stackLong, .ref hp0_stack, .int p0_blocks, .ref hp0_starts, .ref hp0_lengths, .int p0_guardAt, .int p0_guardLong, .int p0_fileLong, .ref hp0_file, .int p0_others, .ref hp0_otherName, .ref hp0_otherLong, .ref hp0_otherByte, .int p0_wasFault, .int p0_fault, .int p0_faultAt, .int p0_undos, .ref hp0_undoM, .ref hp0_undoMemory, .ref hp0_undoStackLong, .ref hp0_undoStack, .ref hp0_undoBlocks, .ref hp0_undoStarts, .ref hp0_undoLengths, .int p0_made, .ref hp0_making, .int p0_at, .int p0_newM, .ref hp0_newMemory, .int p0_newStackLong, .ref hp0_newStack, .int p0_newBlocks, .ref hp0_newStarts, .ref hp0_newLengths, .int p0_newOthers, .ref hp0_newName, .ref hp0_newLong, .ref hp0_newByte, .int p0_came, .int p0_now, .int p0_nowAt])), (hp0_memory, .inl (E.1, 512, .inl p0_memory))] r (fun a => [(hp0, .inr (7, [.int o0, .int p0_seed, .int p0_ram, .int p0_end, .int p0_m, .ref hp0_memory, .int p0_stackLong, .ref hp0_stack, .int p0_blocks, .ref hp0_starts, .ref hp0_lengths, .int p0_guardAt, .int p0_guardLong, .int p0_fileLong, .ref hp0_file, .int p0_others, .ref hp0_otherName, .ref hp0_otherLong, .ref hp0_otherByte, .int p0_wasFault, .int p0_fault, .int p0_faultAt, .int p0_undos, .ref hp0_undoM, .ref hp0_undoMemory, .ref hp0_undoStackLong, .ref hp0_undoStack, .ref hp0_undoBlocks, .ref hp0_undoStarts, .ref hp0_undoLengths, .int p0_made, .ref hp0_making, .int p0_at, .int p0_newM, .ref hp0_newMemory, .int p0_newStackLong, .ref hp0_newStack, .int p0_newBlocks, .ref hp0_newStarts, .ref hp0_newLengths, .int p0_newOthers, .ref hp0_newName, .ref hp0_newLong, .ref hp0_newByte, .int p0_came, .int p0_now, .int p0_nowAt])), (hp0_memory, .inl (E.1, 512, .inl o1))]) 0 0 := by
  refine MI_of (by decide) (Nat.le_of_ble_eq_true rfl) ?_
  intro p e s m args below meth c A Q hx hb hml hown hts hK hA hP hD hS ret ls hl
  replace hl : lv_has ls 4 [(0, .ref hp0), (1, .int i1), (2, .int i2)] := hl
  unfold f_X8_poke at h
  refine lv_aload_n hx hb dX8_poke_0 rfl (lv_at hl 0 rfl) ?_
  refine lv_iconst (v := 0) hx hb dX8_poke_1 (by decide) ?_
  refine putF (D := G) (ci := 7) (v := .int (0 : Int32)) (ty := .int) (C := RX8) (T := TX8) (N := 47) hx hb hts inG_X8 tyX8 tyX8_ok nmX8 hown hK.1 hP hD hS 0 rfl rfl 0 (by decide) tf_X8_0 (hts _ wd_d7e2667f) pd_I rfl rfl (Nat.le_of_ble_eq_true rfl) dX8_poke_2 (fun H locs hP hD hS => ?_)
  have hP : va_P G vwCl [(hp0, .inr (7, [.int (0 : Int32), .int p0_seed, .int p0_ram, .int p0_end, .int p0_m, .ref hp0_memory, .int p0_stackLong, .ref hp0_stack, .int p0_blocks, .ref hp0_starts, .ref hp0_lengths, .int p0_guardAt, .int p0_guardLong, .int p0_fileLong, .ref hp0_file, .int p0_others, .ref hp0_otherName, .ref hp0_otherLong, .ref hp0_otherByte, .int p0_wasFault, .int p0_fault, .int p0_faultAt, .int p0_undos, .ref hp0_undoM, .ref hp0_undoMemory, .ref hp0_undoStackLong, .ref hp0_undoStack, .ref hp0_undoBlocks, .ref hp0_undoStarts, .ref hp0_undoLengths, .int p0_made, .ref hp0_making, .int p0_at, .int p0_newM, .ref hp0_newMemory, .int p0_newStackLong, .ref hp0_newStack, .int p0_newBlocks, .ref hp0_newStarts, .ref hp0_newLengths, .int p0_newOthers, .ref hp0_newName, .ref hp0_newLong, .ref hp0_newByte, .int p0_came, .int p0_now, .int p0_nowAt])), (hp0_memory, .inl (E.1, 512, .inl p0_memory))] H := hP
  have hD : va_D A [(hp0, .inr (7, [.int (0 : Int32), .int p0_seed, .int p0_ram, .int p0_end, .int p0_m, .ref hp0_memory, .int p0_stackLong, .ref hp0_stack, .int p0_blocks, .ref hp0_starts, .ref hp0_lengths, .int p0_guardAt, .int p0_guardLong, .int p0_fileLong, .ref hp0_file, .int p0_others, .ref hp0_otherName, .ref hp0_otherLong, .ref hp0_otherByte, .int p0_wasFault, .int p0_fault, .int p0_faultAt, .int p0_undos, .ref hp0_undoM, .ref hp0_undoMemory, .ref hp0_undoStackLong, .ref hp0_undoStack, .ref hp0_undoBlocks, .ref hp0_undoStarts, .ref hp0_undoLengths, .int p0_made, .ref hp0_making, .int p0_at, .int p0_newM, .ref hp0_newMemory, .int p0_newStackLong, .ref hp0_newStack, .int p0_newBlocks, .ref hp0_newStarts, .ref hp0_newLengths, .int p0_newOthers, .ref hp0_newName, .ref hp0_newLong, .ref hp0_newByte, .int p0_came, .int p0_now, .int p0_nowAt])), (hp0_memory, .inl (E.1, 512, .inl p0_memory))] := hD
  refine lv_iload_n hx hb dX8_poke_5 rfl (lv_at hl 1 rfl) ?_
  refine lv_i2l hx hb dX8_poke_6 rfl ?_
  refine lv_aload_n hx hb dX8_poke_7 rfl (lv_at hl 0 rfl) ?_
  refine getF (D := G) (ci := 7) (v := .int p0_ram) (C := RX8) (T := TX8) (N := 47) hx hb hts inG_X8 hown hK.1 hP 0 rfl rfl 2 (by decide) tf_X8_2 (hts _ wd_383b8cd8) rfl dX8_poke_8 ?_
  refine lv_i2l hx hb dX8_poke_11 rfl ?_
  refine lv_aload_n hx hb dX8_poke_12 rfl (lv_at hl 0 rfl) ?_
  refine getF (D := G) (ci := 7) (v := .int p0_m) (C := RX8) (T := TX8) (N := 47) hx hb hts inG_X8 hown hK.1 hP 0 rfl rfl 4 (by decide) tf_X8_4 (hts _ wd_6aa62c5a) rfl dX8_poke_13 ?_
  refine lv_iconst (v := 1) hx hb dX8_poke_16 (by decide) ?_
  refine lv_isub hx hb dX8_poke_17 ?_
  refine lv_i2l hx hb dX8_poke_18 rfl ?_
  obtain ⟨u1, hu1, h⟩ := bd_t h
  refine cSi (wr := [(hp0, .inr (7, [.int (0 : Int32), .int p0_seed, .int p0_ram, .int p0_end, .int p0_m, .ref hp0_memory, .int p0_stackLong, .ref hp0_stack, .int p0_blocks, .ref hp0_starts, .ref hp0_lengths, .int p0_guardAt, .int p0_guardLong, .int p0_fileLong, .ref hp0_file, .int p0_others, .ref hp0_otherName, .ref hp0_otherLong, .ref hp0_otherByte, .int p0_wasFault, .int p0_fault, .int p0_faultAt, .int p0_undos, .ref hp0_undoM, .ref hp0_undoMemory, .ref hp0_undoStackLong, .ref hp0_undoStack, .ref hp0_undoBlocks, .ref hp0_undoStarts, .ref hp0_undoLengths, .int p0_made, .ref hp0_making, .int p0_at, .int p0_newM, .ref hp0_newMemory, .int p0_newStackLong, .ref hp0_newStack, .int p0_newBlocks, .ref hp0_newStarts, .ref hp0_newLengths, .int p0_newOthers, .ref hp0_newName, .ref hp0_newLong, .ref hp0_newByte, .int p0_came, .int p0_now, .int p0_nowAt])), (hp0_memory, .inl (E.1, 512, .inl p0_memory))]) (As := [.long i1.toInt64, .long p0_ram.toInt64, .long ((p0_m - (1 : Int32)).toInt64)]) (rest := []) ⟨hx, hb, hml, hown, hts⟩ (c_X8_in l G E i1.toInt64 p0_ram.toInt64 ((p0_m - (1 : Int32)).toInt64) u1 hu1) ok_X8_in oks_X8_in wd_1cec0843 ⟨Nat.le_of_ble_eq_true rfl, Nat.le_of_ble_eq_true rfl⟩ hK hP hD hS hA [] [0, 1] rfl rfl (by decide) (by decide) (by decide) rfl hl.1 rfl (Nat.le_of_ble_eq_true rfl) dX8_poke_19 ⟨Nat.le_of_ble_eq_true rfl, Nat.le_of_ble_eq_true rfl⟩ (fun H locs a2 hP hD hS => ?_)
  have hP : va_P G vwCl [(hp0, .inr (7, [.int (0 : Int32), .int p0_seed, .int p0_ram, .int p0_end, .int p0_m, .ref hp0_memory, .int p0_stackLong, .ref hp0_stack, .int p0_blocks, .ref hp0_starts, .ref hp0_lengths, .int p0_guardAt, .int p0_guardLong, .int p0_fileLong, .ref hp0_file, .int p0_others, .ref hp0_otherName, .ref hp0_otherLong, .ref hp0_otherByte, .int p0_wasFault, .int p0_fault, .int p0_faultAt, .int p0_undos, .ref hp0_undoM, .ref hp0_undoMemory, .ref hp0_undoStackLong, .ref hp0_undoStack, .ref hp0_undoBlocks, .ref hp0_undoStarts, .ref hp0_undoLengths, .int p0_made, .ref hp0_making, .int p0_at, .int p0_newM, .ref hp0_newMemory, .int p0_newStackLong, .ref hp0_newStack, .int p0_newBlocks, .ref hp0_newStarts, .ref hp0_newLengths, .int p0_newOthers, .ref hp0_newName, .ref hp0_newLong, .ref hp0_newByte, .int p0_came, .int p0_now, .int p0_nowAt])), (hp0_memory, .inl (E.1, 512, .inl p0_memory))] H := hP
  have hD : va_D A [(hp0, .inr (7, [.int (0 : Int32), .int p0_seed, .int p0_ram, .int p0_end, .int p0_m, .ref hp0_memory, .int p0_stackLong, .ref hp0_stack, .int p0_blocks, .ref hp0_starts, .ref hp0_lengths, .int p0_guardAt, .int p0_guardLong, .int p0_fileLong, .ref hp0_file, .int p0_others, .ref hp0_otherName, .ref hp0_otherLong, .ref hp0_otherByte, .int p0_wasFault, .int p0_fault, .int p0_faultAt, .int p0_undos, .ref hp0_undoM, .ref hp0_undoMemory, .ref hp0_undoStackLong, .ref hp0_undoStack, .ref hp0_undoBlocks, .ref hp0_undoStarts, .ref hp0_undoLengths, .int p0_made, .ref hp0_making, .int p0_at, .int p0_newM, .ref hp0_newMemory, .int p0_newStackLong, .ref hp0_newStack, .int p0_newBlocks, .ref hp0_newStarts, .ref hp0_newLengths, .int p0_newOthers, .ref hp0_newName, .ref hp0_newLong, .ref hp0_newByte, .int p0_came, .int p0_now, .int p0_nowAt])), (hp0_memory, .inl (E.1, 512, .inl p0_memory))] := hD
  refine lv_if_ne (tgt := 27) hx hb dX8_poke_22 (by decide) (fun c3 => ?_) (fun c3 => ?_)
  · replace h := if_f h c3
    refine lv_iload_n hx hb dX8_poke_27 rfl (lv_at hl 2 rfl) ?_
    refine lv_i2l hx hb dX8_poke_28 rfl ?_
    refine lv_lconst (v := 0) hx hb dX8_poke_29 (by decide) ?_
    refine lv_ldc2 hx hb hown (hts _ wd_cff6f869) dX8_poke_30 ?_
    obtain ⟨u4, hu4, h⟩ := bd_t h
    refine cSi (wr := [(hp0, .inr (7, [.int (0 : Int32), .int p0_seed, .int p0_ram, .int p0_end, .int p0_m, .ref hp0_memory, .int p0_stackLong, .ref hp0_stack, .int p0_blocks, .ref hp0_starts, .ref hp0_lengths, .int p0_guardAt, .int p0_guardLong, .int p0_fileLong, .ref hp0_file, .int p0_others, .ref hp0_otherName, .ref hp0_otherLong, .ref hp0_otherByte, .int p0_wasFault, .int p0_fault, .int p0_faultAt, .int p0_undos, .ref hp0_undoM, .ref hp0_undoMemory, .ref hp0_undoStackLong, .ref hp0_undoStack, .ref hp0_undoBlocks, .ref hp0_undoStarts, .ref hp0_undoLengths, .int p0_made, .ref hp0_making, .int p0_at, .int p0_newM, .ref hp0_newMemory, .int p0_newStackLong, .ref hp0_newStack, .int p0_newBlocks, .ref hp0_newStarts, .ref hp0_newLengths, .int p0_newOthers, .ref hp0_newName, .ref hp0_newLong, .ref hp0_newByte, .int p0_came, .int p0_now, .int p0_nowAt])), (hp0_memory, .inl (E.1, 512, .inl p0_memory))]) (As := [.long i2.toInt64, .long (0 : Int64), .long (255 : Int64)]) (rest := []) ⟨hx, hb, hml, hown, hts⟩ (c_X8_in l G E i2.toInt64 (0 : Int64) (255 : Int64) u4 hu4) ok_X8_in oks_X8_in wd_1cec0843 ⟨Nat.le_of_ble_eq_true rfl, Nat.le_of_ble_eq_true rfl⟩ hK hP hD hS hA [] [0, 1] rfl rfl (by decide) (by decide) (by decide) rfl hl.1 rfl (Nat.le_of_ble_eq_true rfl) dX8_poke_33 ⟨Nat.le_of_ble_eq_true rfl, Nat.le_of_ble_eq_true rfl⟩ (fun H locs a5 hP hD hS => ?_)
    have hP : va_P G vwCl [(hp0, .inr (7, [.int (0 : Int32), .int p0_seed, .int p0_ram, .int p0_end, .int p0_m, .ref hp0_memory, .int p0_stackLong, .ref hp0_stack, .int p0_blocks, .ref hp0_starts, .ref hp0_lengths, .int p0_guardAt, .int p0_guardLong, .int p0_fileLong, .ref hp0_file, .int p0_others, .ref hp0_otherName, .ref hp0_otherLong, .ref hp0_otherByte, .int p0_wasFault, .int p0_fault, .int p0_faultAt, .int p0_undos, .ref hp0_undoM, .ref hp0_undoMemory, .ref hp0_undoStackLong, .ref hp0_undoStack, .ref hp0_undoBlocks, .ref hp0_undoStarts, .ref hp0_undoLengths, .int p0_made, .ref hp0_making, .int p0_at, .int p0_newM, .ref hp0_newMemory, .int p0_newStackLong, .ref hp0_newStack, .int p0_newBlocks, .ref hp0_newStarts, .ref hp0_newLengths, .int p0_newOthers, .ref hp0_newName, .ref hp0_newLong, .ref hp0_newByte, .int p0_came, .int p0_now, .int p0_nowAt])), (hp0_memory, .inl (E.1, 512, .inl p0_memory))] H := hP
    have hD : va_D A [(hp0, .inr (7, [.int (0 : Int32), .int p0_seed, .int p0_ram, .int p0_end, .int p0_m, .ref hp0_memory, .int p0_stackLong, .ref hp0_stack, .int p0_blocks, .ref hp0_starts, .ref hp0_lengths, .int p0_guardAt, .int p0_guardLong, .int p0_fileLong, .ref hp0_file, .int p0_others, .ref hp0_otherName, .ref hp0_otherLong, .ref hp0_otherByte, .int p0_wasFault, .int p0_fault, .int p0_faultAt, .int p0_undos, .ref hp0_undoM, .ref hp0_undoMemory, .ref hp0_undoStackLong, .ref hp0_undoStack, .ref hp0_undoBlocks, .ref hp0_undoStarts, .ref hp0_undoLengths, .int p0_made, .ref hp0_making, .int p0_at, .int p0_newM, .ref hp0_newMemory, .int p0_newStackLong, .ref hp0_newStack, .int p0_newBlocks, .ref hp0_newStarts, .ref hp0_newLengths, .int p0_newOthers, .ref hp0_newName, .ref hp0_newLong, .ref hp0_newByte, .int p0_came, .int p0_now, .int p0_nowAt])), (hp0_memory, .inl (E.1, 512, .inl p0_memory))] := hD
    refine lv_if_ne (tgt := 42) hx hb dX8_poke_36 (by decide) (fun c6 => ?_) (fun c6 => ?_)
    · replace h := if_f h c6
      refine lv_aload_n hx hb dX8_poke_42 rfl (lv_at hl 0 rfl) ?_
      refine getF (D := G) (ci := 7) (v := .ref hp0_memory) (C := RX8) (T := TX8) (N := 47) hx hb hts inG_X8 hown hK.1 hP 0 rfl rfl 5 (by decide) tf_X8_5 (hts _ wd_adbb6bd5) rfl dX8_poke_43 ?_
      refine lv_iload_n hx hb dX8_poke_46 rfl (lv_at hl 1 rfl) ?_
      obtain ⟨g7, h⟩ := gin_t h
      refine va_iald hx hb hK.1 hP 1 0 rfl rfl g7 dX8_poke_47 ?_
      refine lv_topi (fun x8 ex8 => ?_)
      replace h := bn_t h ex8
      refine lv_istore_n (lv' := [(3, .int x8), (0, .ref hp0), (1, .int i1), (2, .int i2)]) hx hb dX8_poke_48 rfl hl (by decide) rfl (fun ls hl => ?_)
      refine lv_aload_n hx hb dX8_poke_49 rfl (lv_at hl 1 rfl) ?_
      refine getF (D := G) (ci := 7) (v := .ref hp0_memory) (C := RX8) (T := TX8) (N := 47) hx hb hts inG_X8 hown hK.1 hP 0 rfl rfl 5 (by decide) tf_X8_5 (hts _ wd_adbb6bd5) rfl dX8_poke_50 ?_
      refine lv_iload_n hx hb dX8_poke_53 rfl (lv_at hl 2 rfl) ?_
      refine lv_iload_n hx hb dX8_poke_54 rfl (lv_at hl 3 rfl) ?_
      obtain ⟨g9, h⟩ := gin_t h
      refine va_iast hx hb hK.1 hP hD hS 1 0 rfl rfl g9 dX8_poke_55 (fun H locs hP hD hS => ?_)
      have hP : va_P G vwCl [(hp0, .inr (7, [.int (0 : Int32), .int p0_seed, .int p0_ram, .int p0_end, .int p0_m, .ref hp0_memory, .int p0_stackLong, .ref hp0_stack, .int p0_blocks, .ref hp0_starts, .ref hp0_lengths, .int p0_guardAt, .int p0_guardLong, .int p0_fileLong, .ref hp0_file, .int p0_others, .ref hp0_otherName, .ref hp0_otherLong, .ref hp0_otherByte, .int p0_wasFault, .int p0_fault, .int p0_faultAt, .int p0_undos, .ref hp0_undoM, .ref hp0_undoMemory, .ref hp0_undoStackLong, .ref hp0_undoStack, .ref hp0_undoBlocks, .ref hp0_undoStarts, .ref hp0_undoLengths, .int p0_made, .ref hp0_making, .int p0_at, .int p0_newM, .ref hp0_newMemory, .int p0_newStackLong, .ref hp0_newStack, .int p0_newBlocks, .ref hp0_newStarts, .ref hp0_newLengths, .int p0_newOthers, .ref hp0_newName, .ref hp0_newLong, .ref hp0_newByte, .int p0_came, .int p0_now, .int p0_nowAt])), (hp0_memory, .inl (E.1, 512, .inl (upd p0_memory i1.toNatClampNeg i2)))] H := hP
      have hD : va_D A [(hp0, .inr (7, [.int (0 : Int32), .int p0_seed, .int p0_ram, .int p0_end, .int p0_m, .ref hp0_memory, .int p0_stackLong, .ref hp0_stack, .int p0_blocks, .ref hp0_starts, .ref hp0_lengths, .int p0_guardAt, .int p0_guardLong, .int p0_fileLong, .ref hp0_file, .int p0_others, .ref hp0_otherName, .ref hp0_otherLong, .ref hp0_otherByte, .int p0_wasFault, .int p0_fault, .int p0_faultAt, .int p0_undos, .ref hp0_undoM, .ref hp0_undoMemory, .ref hp0_undoStackLong, .ref hp0_undoStack, .ref hp0_undoBlocks, .ref hp0_undoStarts, .ref hp0_undoLengths, .int p0_made, .ref hp0_making, .int p0_at, .int p0_newM, .ref hp0_newMemory, .int p0_newStackLong, .ref hp0_newStack, .int p0_newBlocks, .ref hp0_newStarts, .ref hp0_newLengths, .int p0_newOthers, .ref hp0_newName, .ref hp0_newLong, .ref hp0_newByte, .int p0_came, .int p0_now, .int p0_nowAt])), (hp0_memory, .inl (E.1, 512, .inl (upd p0_memory i1.toNatClampNeg i2)))] := hD
      obtain ⟨m10, em10⟩ : ∃ y : Nat → Int32, y = upd p0_memory i1.toNatClampNeg i2 := ⟨_, rfl⟩
      replace h := bn_t h em10
      rw [← em10] at hP hD
      refine lv_iload_n hx hb dX8_poke_56 rfl (lv_at hl 0 rfl) ?_
      cases h
      exact ret _ _ _ _ _ (fun _ => 0) rfl rfl hP hD hS dX8_poke_57
    · replace h := if_t h c6
      refine lv_bipush (v := (-2)) hx hb dX8_poke_39 (by decide) ?_
      cases h
      exact ret _ _ _ _ _ (fun _ => 0) rfl rfl hP hD hS dX8_poke_41
  · replace h := if_t h c3
    refine lv_iconst (v := (-1)) hx hb dX8_poke_25 (by decide) ?_
    cases h
    exact ret _ _ _ _ _ (fun _ => 0) rfl rfl hP hD hS dX8_poke_26
def B_X8_resize_18 (i1 : Int32) (p0_m : Int32) (p0_blocks : Int32) (p0_starts : (Nat → Int32)) (p0_lengths : (Nat → Int32)) (p0_memory : (Nat → Int32)) (rec18 : Int32 → Option (Int32 × Int32 × Int32 × (Nat → Int32))) (K52 : Int32 → Option (Int32 × Int32 × Int32 × (Nat → Int32))) (z4 : Int32) : Option (Int32 × Int32 × Int32 × (Nat → Int32)) :=
  if p0_blocks ≤ z4 then (
  K52 z4)
  else
  gin z4 8 <|
  gin z4 8 <|
  if ((p0_starts z4.toNatClampNeg) + (p0_lengths z4.toNatClampNeg)) ≤ i1 then (
  bn (z4 + 1) fun x9 =>
  rec18 x9)
  else
  some ((-3 : Int32), (0 : Int32), p0_m, p0_memory)
def L_X8_resize_18 (i1 : Int32) (p0_m : Int32) (p0_blocks : Int32) (p0_starts : (Nat → Int32)) (p0_lengths : (Nat → Int32)) (p0_memory : (Nat → Int32)) (K52 : Int32 → Option (Int32 × Int32 × Int32 × (Nat → Int32))) : Nat → Int32 → Option (Int32 × Int32 × Int32 × (Nat → Int32))
    | 0, _ => none
    | n + 1, z4 => B_X8_resize_18 i1 p0_m p0_blocks p0_starts p0_lengths p0_memory (fun z4 => L_X8_resize_18 i1 p0_m p0_blocks p0_starts p0_lengths p0_memory K52 n z4) K52 z4
def B_X8_resize_59 (i1 : Int32) (rec59 : (Nat → Int32) → Int32 → Option (Int32 × Int32 × Int32 × (Nat → Int32))) (K77 : (Nat → Int32) → Int32 → Option (Int32 × Int32 × Int32 × (Nat → Int32))) (z10 : (Nat → Int32)) (z11 : Int32) : Option (Int32 × Int32 × Int32 × (Nat → Int32)) :=
  if i1 ≤ z11 then (
  K77 z10 z11)
  else
  gin z11 512 <|
  bn (upd z10 z11.toNatClampNeg (0 : Int32)) fun m14 =>
  bn (z11 + 1) fun x15 =>
  rec59 m14 x15
def L_X8_resize_59 (i1 : Int32) (K77 : (Nat → Int32) → Int32 → Option (Int32 × Int32 × Int32 × (Nat → Int32))) : Nat → (Nat → Int32) → Int32 → Option (Int32 × Int32 × Int32 × (Nat → Int32))
    | 0, _, _ => none
    | n + 1, z10, z11 => B_X8_resize_59 i1 (fun z10 z11 => L_X8_resize_59 i1 K77 n z10 z11) K77 z10 z11
def f_X8_resize (N : Nat) (i1 : Int32) (p0_end : Int32) (p0_m : Int32) (p0_blocks : Int32) (p0_starts : (Nat → Int32)) (p0_lengths : (Nat → Int32)) (p0_memory : (Nat → Int32)) : Option (Int32 × Int32 × Int32 × (Nat → Int32)) :=
  bd (f_X8_isSize i1 p0_end) fun u1 =>
  if u1 = 0 then (
  some ((-2 : Int32), (0 : Int32), p0_m, p0_memory))
  else
  L_X8_resize_18 i1 p0_m p0_blocks p0_starts p0_lengths p0_memory 
  (fun z4 =>
  L_X8_resize_59 i1 
  (fun z10 z11 =>
  some (p0_m, (0 : Int32), i1, z10)) N p0_memory p0_m) N (0 : Int32)
abbrev w_rm_X8_resize : Room := { frames := 2, cells := 0, slots := 0, locals := 46 }
set_option maxHeartbeats 4000000 in
set_option maxRecDepth 100000 in
theorem c_X8_resize (l : Launch) (G : va_G) (E : ClassId × ClassId × ClassId) (N : Nat) (hp0 : Nat) (p0_thrown : Int32) (p0_seed : Int32) (p0_ram : Int32) (p0_end : Int32) (p0_m : Int32) (hp0_memory : Nat) (p0_stackLong : Int32) (hp0_stack : Nat) (p0_blocks : Int32) (hp0_starts : Nat) (hp0_lengths : Nat) (p0_guardAt : Int32) (p0_guardLong : Int32) (p0_fileLong : Int32) (hp0_file : Nat) (p0_others : Int32) (hp0_otherName : Nat) (hp0_otherLong : Nat) (hp0_otherByte : Nat) (p0_wasFault : Int32) (p0_fault : Int32) (p0_faultAt : Int32) (p0_undos : Int32) (hp0_undoM : Nat) (hp0_undoMemory : Nat) (hp0_undoStackLong : Nat) (hp0_undoStack : Nat) (hp0_undoBlocks : Nat) (hp0_undoStarts : Nat) (hp0_undoLengths : Nat) (p0_made : Int32) (hp0_making : Nat) (p0_at : Int32) (p0_newM : Int32) (hp0_newMemory : Nat) (p0_newStackLong : Int32) (hp0_newStack : Nat) (p0_newBlocks : Int32) (hp0_newStarts : Nat) (hp0_newLengths : Nat) (p0_newOthers : Int32) (hp0_newName : Nat) (hp0_newLong : Nat) (hp0_newByte : Nat) (p0_came : Int32) (p0_now : Int32) (p0_nowAt : Int32) (p0_starts : (Nat → Int32)) (p0_lengths : (Nat → Int32)) (p0_memory : (Nat → Int32)) (i1 : Int32) (r : Int32) (o0 : Int32) (o1 : Int32) (o2 : (Nat → Int32)) (h : f_X8_resize N i1 p0_end p0_m p0_blocks p0_starts p0_lengths p0_memory = some (r, o0, o1, o2)) : MI l G E yX8_resize cX8_resize 4 .int w_rm_X8_resize [.ref hp0, .int i1] [(hp0, .inr (7, [.int p0_thrown, .int p0_seed, .int p0_ram, .int p0_end, .int p0_m, .ref hp0_memory, .int p0_stackLong, .ref hp0_stack, .int p0_blocks, .ref hp0_starts, .ref hp0_lengths, .int p0_guardAt, .int p0_guardLong, .int p0_fileLong, .ref hp0_file, .int p0_others, .ref hp0_otherName, .ref hp0_otherLong, .ref hp0_otherByte, .int p0_wasFault, .int p0_fault, .int p0_faultAt, .int p0_undos, .ref hp0_undoM, .ref hp0_undoMemory, .ref hp0_undoStackLong, .ref hp0_undoStack, .ref hp0_undoBlocks, .ref hp0_undoStarts, .ref hp0_undoLengths, .int p0_made, .ref hp0_making, .int p0_at, .int p0_newM, .ref hp0_newMemory, .int p0_newStackLong, .ref hp0_newStack, .int p0_newBlocks, .ref hp0_newStarts, .ref hp0_newLengths, .int p0_newOthers, .ref hp0_newName, .ref hp0_newLong, .ref hp0_newByte, .int p0_came, .int p0_now, .int p0_nowAt])), (hp0_starts, .inl (E.1, 8, .inl p0_starts)), (hp0_lengths, .inl (E.1, 8, .inl p0_lengths)), (hp0_memory, .inl (E.1, 512, .inl p0_memory))] r (fun a => [(hp0, .inr (7, [.int o0, .int p0_seed, .int p0_ram, .int p0_end, .int o1, .ref hp0_memory, .int p0_stackLong, .ref hp0_stack, .int p0_blocks, .ref hp0_starts, .ref hp0_lengths, .int p0_guardAt, .int p0_guardLong, .int p0_fileLong, .ref hp0_file, .int p0_others, .ref hp0_otherName, .ref hp0_otherLong, .ref hp0_otherByte, .int p0_wasFault, .int p0_fault, .int p0_faultAt, .int p0_undos, .ref hp0_undoM, .ref hp0_undoMemory, .ref hp0_undoStackLong, .ref hp0_undoStack, .ref hp0_undoBlocks, .ref hp0_undoStarts, .ref hp0_undoLengths, .int p0_made, .ref hp0_making, .int p0_at, .int p0_newM, .ref hp0_newMemory, .int p0_newStackLong, .ref hp0_newStack, .int p0_newBlocks, .ref hp0_newStarts, .ref hp0_newLengths, .int p0_newOthers, .ref hp0_newName, .ref hp0_newLong, .ref hp0_newByte, .int p0_came, .int p0_now, .int p0_nowAt])), (hp0_starts, .inl (E.1, 8, .inl p0_starts)), (hp0_lengths, .inl (E.1, 8, .inl p0_lengths)), (hp0_memory, .inl (E.1, 512, .inl o2))]) 0 0 := by
  refine MI_of (by decide) (Nat.le_of_ble_eq_true rfl) ?_
  intro p e s m args below meth c A Q hx hb hml hown hts hK hA hP hD hS ret ls hl
  replace hl : lv_has ls 4 [(0, .ref hp0), (1, .int i1)] := hl
  unfold f_X8_resize at h
  refine lv_aload_n hx hb dX8_resize_0 rfl (lv_at hl 0 rfl) ?_
  refine lv_iconst (v := 0) hx hb dX8_resize_1 (by decide) ?_
  refine putF (D := G) (ci := 7) (v := .int (0 : Int32)) (ty := .int) (C := RX8) (T := TX8) (N := 47) hx hb hts inG_X8 tyX8 tyX8_ok nmX8 hown hK.1 hP hD hS 0 rfl rfl 0 (by decide) tf_X8_0 (hts _ wd_d7e2667f) pd_I rfl rfl (Nat.le_of_ble_eq_true rfl) dX8_resize_2 (fun H locs hP hD hS => ?_)
  have hP : va_P G vwCl [(hp0, .inr (7, [.int (0 : Int32), .int p0_seed, .int p0_ram, .int p0_end, .int p0_m, .ref hp0_memory, .int p0_stackLong, .ref hp0_stack, .int p0_blocks, .ref hp0_starts, .ref hp0_lengths, .int p0_guardAt, .int p0_guardLong, .int p0_fileLong, .ref hp0_file, .int p0_others, .ref hp0_otherName, .ref hp0_otherLong, .ref hp0_otherByte, .int p0_wasFault, .int p0_fault, .int p0_faultAt, .int p0_undos, .ref hp0_undoM, .ref hp0_undoMemory, .ref hp0_undoStackLong, .ref hp0_undoStack, .ref hp0_undoBlocks, .ref hp0_undoStarts, .ref hp0_undoLengths, .int p0_made, .ref hp0_making, .int p0_at, .int p0_newM, .ref hp0_newMemory, .int p0_newStackLong, .ref hp0_newStack, .int p0_newBlocks, .ref hp0_newStarts, .ref hp0_newLengths, .int p0_newOthers, .ref hp0_newName, .ref hp0_newLong, .ref hp0_newByte, .int p0_came, .int p0_now, .int p0_nowAt])), (hp0_starts, .inl (E.1, 8, .inl p0_starts)), (hp0_lengths, .inl (E.1, 8, .inl p0_lengths)), (hp0_memory, .inl (E.1, 512, .inl p0_memory))] H := hP
  have hD : va_D A [(hp0, .inr (7, [.int (0 : Int32), .int p0_seed, .int p0_ram, .int p0_end, .int p0_m, .ref hp0_memory, .int p0_stackLong, .ref hp0_stack, .int p0_blocks, .ref hp0_starts, .ref hp0_lengths, .int p0_guardAt, .int p0_guardLong, .int p0_fileLong, .ref hp0_file, .int p0_others, .ref hp0_otherName, .ref hp0_otherLong, .ref hp0_otherByte, .int p0_wasFault, .int p0_fault, .int p0_faultAt, .int p0_undos, .ref hp0_undoM, .ref hp0_undoMemory, .ref hp0_undoStackLong, .ref hp0_undoStack, .ref hp0_undoBlocks, .ref hp0_undoStarts, .ref hp0_undoLengths, .int p0_made, .ref hp0_making, .int p0_at, .int p0_newM, .ref hp0_newMemory, .int p0_newStackLong, .ref hp0_newStack, .int p0_newBlocks, .ref hp0_newStarts, .ref hp0_newLengths, .int p0_newOthers, .ref hp0_newName, .ref hp0_newLong, .ref hp0_newByte, .int p0_came, .int p0_now, .int p0_nowAt])), (hp0_starts, .inl (E.1, 8, .inl p0_starts)), (hp0_lengths, .inl (E.1, 8, .inl p0_lengths)), (hp0_memory, .inl (E.1, 512, .inl p0_memory))] := hD
  refine lv_aload_n hx hb dX8_resize_5 rfl (lv_at hl 0 rfl) ?_
  refine lv_iload_n hx hb dX8_resize_6 rfl (lv_at hl 1 rfl) ?_
  obtain ⟨u1, hu1, h⟩ := bd_t h
  refine cVi (wr := [(hp0_starts, .inl (E.1, 8, .inl p0_starts)), (hp0_lengths, .inl (E.1, 8, .inl p0_lengths)), (hp0_memory, .inl (E.1, 512, .inl p0_memory))]) (As := [.int i1]) (rest := []) ⟨hx, hb, hml, hown, hts⟩ (c_X8_isSize l G E hp0 (0 : Int32) p0_seed p0_ram p0_end p0_m hp0_memory p0_stackLong hp0_stack p0_blocks hp0_starts hp0_lengths p0_guardAt p0_guardLong p0_fileLong hp0_file p0_others hp0_otherName hp0_otherLong hp0_otherByte p0_wasFault p0_fault p0_faultAt p0_undos hp0_undoM hp0_undoMemory hp0_undoStackLong hp0_undoStack hp0_undoBlocks hp0_undoStarts hp0_undoLengths p0_made hp0_making p0_at p0_newM hp0_newMemory p0_newStackLong hp0_newStack p0_newBlocks hp0_newStarts hp0_newLengths p0_newOthers hp0_newName hp0_newLong hp0_newByte p0_came p0_now p0_nowAt i1 u1 hu1) ok_X8_isSize okv_X8_isSize wd_ba73381d ⟨Nat.le_of_ble_eq_true rfl, Nat.le_of_ble_eq_true rfl⟩ hK hP hD hS hA [0] [1, 2, 3] rfl rfl (by decide) (by decide) (by decide) (va_recv hK.1 hP (ci := 7) (q0 := 0) rfl rfl) rfl hl.1 rfl (Nat.le_of_ble_eq_true rfl) dX8_resize_7 ⟨Nat.le_of_ble_eq_true rfl, Nat.le_of_ble_eq_true rfl⟩ (fun H locs a2 hP hD hS => ?_)
  have hP : va_P G vwCl [(hp0_starts, .inl (E.1, 8, .inl p0_starts)), (hp0_lengths, .inl (E.1, 8, .inl p0_lengths)), (hp0_memory, .inl (E.1, 512, .inl p0_memory)), (hp0, .inr (7, [.int (0 : Int32), .int p0_seed, .int p0_ram, .int p0_end, .int p0_m, .ref hp0_memory, .int p0_stackLong, .ref hp0_stack, .int p0_blocks, .ref hp0_starts, .ref hp0_lengths, .int p0_guardAt, .int p0_guardLong, .int p0_fileLong, .ref hp0_file, .int p0_others, .ref hp0_otherName, .ref hp0_otherLong, .ref hp0_otherByte, .int p0_wasFault, .int p0_fault, .int p0_faultAt, .int p0_undos, .ref hp0_undoM, .ref hp0_undoMemory, .ref hp0_undoStackLong, .ref hp0_undoStack, .ref hp0_undoBlocks, .ref hp0_undoStarts, .ref hp0_undoLengths, .int p0_made, .ref hp0_making, .int p0_at, .int p0_newM, .ref hp0_newMemory, .int p0_newStackLong, .ref hp0_newStack, .int p0_newBlocks, .ref hp0_newStarts, .ref hp0_newLengths, .int p0_newOthers, .ref hp0_newName, .ref hp0_newLong, .ref hp0_newByte, .int p0_came, .int p0_now, .int p0_nowAt]))] H := hP
  have hD : va_D A [(hp0_starts, .inl (E.1, 8, .inl p0_starts)), (hp0_lengths, .inl (E.1, 8, .inl p0_lengths)), (hp0_memory, .inl (E.1, 512, .inl p0_memory)), (hp0, .inr (7, [.int (0 : Int32), .int p0_seed, .int p0_ram, .int p0_end, .int p0_m, .ref hp0_memory, .int p0_stackLong, .ref hp0_stack, .int p0_blocks, .ref hp0_starts, .ref hp0_lengths, .int p0_guardAt, .int p0_guardLong, .int p0_fileLong, .ref hp0_file, .int p0_others, .ref hp0_otherName, .ref hp0_otherLong, .ref hp0_otherByte, .int p0_wasFault, .int p0_fault, .int p0_faultAt, .int p0_undos, .ref hp0_undoM, .ref hp0_undoMemory, .ref hp0_undoStackLong, .ref hp0_undoStack, .ref hp0_undoBlocks, .ref hp0_undoStarts, .ref hp0_undoLengths, .int p0_made, .ref hp0_making, .int p0_at, .int p0_newM, .ref hp0_newMemory, .int p0_newStackLong, .ref hp0_newStack, .int p0_newBlocks, .ref hp0_newStarts, .ref hp0_newLengths, .int p0_newOthers, .ref hp0_newName, .ref hp0_newLong, .ref hp0_newByte, .int p0_came, .int p0_now, .int p0_nowAt]))] := hD
  refine lv_if_ne (tgt := 16) hx hb dX8_resize_10 (by decide) (fun c3 => ?_) (fun c3 => ?_)
  · replace h := if_f h c3
    refine lv_iconst (v := 0) hx hb dX8_resize_16 (by decide) ?_
    refine lv_istore_n (lv' := [(2, .int (0 : Int32)), (0, .ref hp0), (1, .int i1)]) hx hb dX8_resize_17 rfl hl (by decide) rfl (fun ls hl => ?_)
    have hL18 : ∀ (K52 : Int32 → Option (Int32 × Int32 × Int32 × (Nat → Int32))), (∀ (z4 : Int32), K52 z4 = some (r, o0, o1, o2) → ∀ (H : Heap) (locs : List Loc) (ls : Array Slot), va_P G vwCl [(hp0_starts, .inl (E.1, 8, .inl p0_starts)), (hp0_lengths, .inl (E.1, 8, .inl p0_lengths)), (hp0_memory, .inl (E.1, 512, .inl p0_memory)), (hp0, .inr (7, [.int (0 : Int32), .int p0_seed, .int p0_ram, .int p0_end, .int p0_m, .ref hp0_memory, .int p0_stackLong, .ref hp0_stack, .int p0_blocks, .ref hp0_starts, .ref hp0_lengths, .int p0_guardAt, .int p0_guardLong, .int p0_fileLong, .ref hp0_file, .int p0_others, .ref hp0_otherName, .ref hp0_otherLong, .ref hp0_otherByte, .int p0_wasFault, .int p0_fault, .int p0_faultAt, .int p0_undos, .ref hp0_undoM, .ref hp0_undoMemory, .ref hp0_undoStackLong, .ref hp0_undoStack, .ref hp0_undoBlocks, .ref hp0_undoStarts, .ref hp0_undoLengths, .int p0_made, .ref hp0_making, .int p0_at, .int p0_newM, .ref hp0_newMemory, .int p0_newStackLong, .ref hp0_newStack, .int p0_newBlocks, .ref hp0_newStarts, .ref hp0_newLengths, .int p0_newOthers, .ref hp0_newName, .ref hp0_newLong, .ref hp0_newByte, .int p0_came, .int p0_now, .int p0_nowAt]))] H → va_D A [(hp0_starts, .inl (E.1, 8, .inl p0_starts)), (hp0_lengths, .inl (E.1, 8, .inl p0_lengths)), (hp0_memory, .inl (E.1, 512, .inl p0_memory)), (hp0, .inr (7, [.int (0 : Int32), .int p0_seed, .int p0_ram, .int p0_end, .int p0_m, .ref hp0_memory, .int p0_stackLong, .ref hp0_stack, .int p0_blocks, .ref hp0_starts, .ref hp0_lengths, .int p0_guardAt, .int p0_guardLong, .int p0_fileLong, .ref hp0_file, .int p0_others, .ref hp0_otherName, .ref hp0_otherLong, .ref hp0_otherByte, .int p0_wasFault, .int p0_fault, .int p0_faultAt, .int p0_undos, .ref hp0_undoM, .ref hp0_undoMemory, .ref hp0_undoStackLong, .ref hp0_undoStack, .ref hp0_undoBlocks, .ref hp0_undoStarts, .ref hp0_undoLengths, .int p0_made, .ref hp0_making, .int p0_at, .int p0_newM, .ref hp0_newMemory, .int p0_newStackLong, .ref hp0_newStack, .int p0_newBlocks, .ref hp0_newStarts, .ref hp0_newLengths, .int p0_newOthers, .ref hp0_newName, .ref hp0_newLong, .ref hp0_newByte, .int p0_came, .int p0_now, .int p0_nowAt]))] → va_S A s.heap H locs → lv_has ls 4 [(0, .ref hp0), (1, .int i1)] → W p l e w_rm_X8_resize s m args below meth c H locs 0 0 Q (F0 m 52 ls [])) → ∀ (n : Nat) (z4 : Int32), L_X8_resize_18 i1 p0_m p0_blocks p0_starts p0_lengths p0_memory K52 n z4 = some (r, o0, o1, o2) → ∀ (H : Heap) (locs : List Loc) (ls : Array Slot), va_P G vwCl [(hp0_starts, .inl (E.1, 8, .inl p0_starts)), (hp0_lengths, .inl (E.1, 8, .inl p0_lengths)), (hp0_memory, .inl (E.1, 512, .inl p0_memory)), (hp0, .inr (7, [.int (0 : Int32), .int p0_seed, .int p0_ram, .int p0_end, .int p0_m, .ref hp0_memory, .int p0_stackLong, .ref hp0_stack, .int p0_blocks, .ref hp0_starts, .ref hp0_lengths, .int p0_guardAt, .int p0_guardLong, .int p0_fileLong, .ref hp0_file, .int p0_others, .ref hp0_otherName, .ref hp0_otherLong, .ref hp0_otherByte, .int p0_wasFault, .int p0_fault, .int p0_faultAt, .int p0_undos, .ref hp0_undoM, .ref hp0_undoMemory, .ref hp0_undoStackLong, .ref hp0_undoStack, .ref hp0_undoBlocks, .ref hp0_undoStarts, .ref hp0_undoLengths, .int p0_made, .ref hp0_making, .int p0_at, .int p0_newM, .ref hp0_newMemory, .int p0_newStackLong, .ref hp0_newStack, .int p0_newBlocks, .ref hp0_newStarts, .ref hp0_newLengths, .int p0_newOthers, .ref hp0_newName, .ref hp0_newLong, .ref hp0_newByte, .int p0_came, .int p0_now, .int p0_nowAt]))] H → va_D A [(hp0_starts, .inl (E.1, 8, .inl p0_starts)), (hp0_lengths, .inl (E.1, 8, .inl p0_lengths)), (hp0_memory, .inl (E.1, 512, .inl p0_memory)), (hp0, .inr (7, [.int (0 : Int32), .int p0_seed, .int p0_ram, .int p0_end, .int p0_m, .ref hp0_memory, .int p0_stackLong, .ref hp0_stack, .int p0_blocks, .ref hp0_starts, .ref hp0_lengths, .int p0_guardAt, .int p0_guardLong, .int p0_fileLong, .ref hp0_file, .int p0_others, .ref hp0_otherName, .ref hp0_otherLong, .ref hp0_otherByte, .int p0_wasFault, .int p0_fault, .int p0_faultAt, .int p0_undos, .ref hp0_undoM, .ref hp0_undoMemory, .ref hp0_undoStackLong, .ref hp0_undoStack, .ref hp0_undoBlocks, .ref hp0_undoStarts, .ref hp0_undoLengths, .int p0_made, .ref hp0_making, .int p0_at, .int p0_newM, .ref hp0_newMemory, .int p0_newStackLong, .ref hp0_newStack, .int p0_newBlocks, .ref hp0_newStarts, .ref hp0_newLengths, .int p0_newOthers, .ref hp0_newName, .ref hp0_newLong, .ref hp0_newByte, .int p0_came, .int p0_now, .int p0_nowAt]))] → va_S A s.heap H locs → lv_has ls 4 [(0, .ref hp0), (1, .int i1), (2, .int z4)] → W p l e w_rm_X8_resize s m args below meth c H locs 0 0 Q (F0 m 18 ls []) := by
      intro K52 hK52 n
      induction n with
      | zero =>
        intro z4 h
        replace h : (none : Option (Int32 × Int32 × Int32 × (Nat → Int32))) = some (r, o0, o1, o2) := h
        cases h
      | succ n ih =>
        intro z4 h H locs ls hP hD hS hl
        replace h : B_X8_resize_18 i1 p0_m p0_blocks p0_starts p0_lengths p0_memory (fun z4 => L_X8_resize_18 i1 p0_m p0_blocks p0_starts p0_lengths p0_memory K52 n z4) K52 z4 = some (r, o0, o1, o2) := h
        obtain ⟨rec18, hrec18⟩ : ∃ f : Int32 → Option (Int32 × Int32 × Int32 × (Nat → Int32)), f = (fun z4 => L_X8_resize_18 i1 p0_m p0_blocks p0_starts p0_lengths p0_memory K52 n z4) := ⟨_, rfl⟩
        rw [← hrec18] at h
        unfold B_X8_resize_18 at h
        refine lv_iload_n hx hb dX8_resize_18 rfl (lv_at hl 2 rfl) ?_
        refine lv_aload_n hx hb dX8_resize_19 rfl (lv_at hl 0 rfl) ?_
        refine getF (D := G) (ci := 7) (v := .int p0_blocks) (C := RX8) (T := TX8) (N := 47) hx hb hts inG_X8 hown hK.1 hP 3 rfl rfl 8 (by decide) tf_X8_8 (hts _ wd_f86497e1) rfl dX8_resize_20 ?_
        refine lv_icmp_ge (tgt := 52) hx hb dX8_resize_23 (by decide) (fun c5 => ?_) (fun c5 => ?_)
        · replace h := if_t h c5
          exact hK52 z4 h _ _ _ hP hD hS (lv_sub hl [0, 1] rfl)
        · replace h := if_f h c5
          refine lv_aload_n hx hb dX8_resize_26 rfl (lv_at hl 0 rfl) ?_
          refine getF (D := G) (ci := 7) (v := .ref hp0_starts) (C := RX8) (T := TX8) (N := 47) hx hb hts inG_X8 hown hK.1 hP 3 rfl rfl 9 (by decide) tf_X8_9 (hts _ wd_a6f33519) rfl dX8_resize_27 ?_
          refine lv_iload_n hx hb dX8_resize_30 rfl (lv_at hl 2 rfl) ?_
          obtain ⟨g6, h⟩ := gin_t h
          refine va_iald hx hb hK.1 hP 0 0 rfl rfl g6 dX8_resize_31 ?_
          refine lv_aload_n hx hb dX8_resize_32 rfl (lv_at hl 0 rfl) ?_
          refine getF (D := G) (ci := 7) (v := .ref hp0_lengths) (C := RX8) (T := TX8) (N := 47) hx hb hts inG_X8 hown hK.1 hP 3 rfl rfl 10 (by decide) tf_X8_10 (hts _ wd_43fba336) rfl dX8_resize_33 ?_
          refine lv_iload_n hx hb dX8_resize_36 rfl (lv_at hl 2 rfl) ?_
          obtain ⟨g7, h⟩ := gin_t h
          refine va_iald hx hb hK.1 hP 1 0 rfl rfl g7 dX8_resize_37 ?_
          refine lv_iadd hx hb dX8_resize_38 ?_
          refine lv_iload_n hx hb dX8_resize_39 rfl (lv_at hl 1 rfl) ?_
          refine lv_icmp_le (tgt := 46) hx hb dX8_resize_40 (by decide) (fun c8 => ?_) (fun c8 => ?_)
          · replace h := if_t h c8
            obtain ⟨x9, ex9⟩ : ∃ y : Int32, y = z4 + 1 := ⟨_, rfl⟩
            replace h := bn_t h ex9
            refine lv_iinc (v := x9) (lv' := [(2, .int x9), (0, .ref hp0), (1, .int i1)]) hx hb dX8_resize_46 hl (k := 2) rfl (by rw [ex9]; rfl) (by decide) rfl (fun ls hl => ?_)
            refine lv_goto (tgt := 18) hx hb dX8_resize_49 (by decide) ?_
            exact ih x9 (by rw [hrec18] at h; exact h) _ _ _ hP hD hS (lv_sub hl [1, 2, 0] rfl)
          · replace h := if_f h c8
            refine lv_bipush (v := (-3)) hx hb dX8_resize_43 (by decide) ?_
            cases h
            exact ret _ _ _ _ _ (fun _ => 0) rfl rfl (hP.sub [3, 0, 1, 2] rfl) (hD.sub [3, 0, 1, 2] (by decide) rfl) hS dX8_resize_45
    refine hL18 _ (fun z4 h H locs ls hP hD hS hl => ?_) N (0 : Int32) h _ _ _ hP hD hS (lv_sub hl [1, 2, 0] rfl)
    try dsimp only at h
    refine lv_aload_n hx hb dX8_resize_52 rfl (lv_at hl 0 rfl) ?_
    refine getF (D := G) (ci := 7) (v := .int p0_m) (C := RX8) (T := TX8) (N := 47) hx hb hts inG_X8 hown hK.1 hP 3 rfl rfl 4 (by decide) tf_X8_4 (hts _ wd_6aa62c5a) rfl dX8_resize_53 ?_
    refine lv_istore_n (lv' := [(2, .int p0_m), (0, .ref hp0), (1, .int i1)]) hx hb dX8_resize_56 rfl hl (by decide) rfl (fun ls hl => ?_)
    refine lv_iload_n hx hb dX8_resize_57 rfl (lv_at hl 0 rfl) ?_
    refine lv_istore_n (lv' := [(3, .int p0_m), (2, .int p0_m), (0, .ref hp0), (1, .int i1)]) hx hb dX8_resize_58 rfl hl (by decide) rfl (fun ls hl => ?_)
    have hL59 : ∀ (K77 : (Nat → Int32) → Int32 → Option (Int32 × Int32 × Int32 × (Nat → Int32))), (∀ (z10 : (Nat → Int32)) (z11 : Int32), K77 z10 z11 = some (r, o0, o1, o2) → ∀ (H : Heap) (locs : List Loc) (ls : Array Slot), va_P G vwCl [(hp0_starts, .inl (E.1, 8, .inl p0_starts)), (hp0_lengths, .inl (E.1, 8, .inl p0_lengths)), (hp0_memory, .inl (E.1, 512, .inl z10)), (hp0, .inr (7, [.int (0 : Int32), .int p0_seed, .int p0_ram, .int p0_end, .int p0_m, .ref hp0_memory, .int p0_stackLong, .ref hp0_stack, .int p0_blocks, .ref hp0_starts, .ref hp0_lengths, .int p0_guardAt, .int p0_guardLong, .int p0_fileLong, .ref hp0_file, .int p0_others, .ref hp0_otherName, .ref hp0_otherLong, .ref hp0_otherByte, .int p0_wasFault, .int p0_fault, .int p0_faultAt, .int p0_undos, .ref hp0_undoM, .ref hp0_undoMemory, .ref hp0_undoStackLong, .ref hp0_undoStack, .ref hp0_undoBlocks, .ref hp0_undoStarts, .ref hp0_undoLengths, .int p0_made, .ref hp0_making, .int p0_at, .int p0_newM, .ref hp0_newMemory, .int p0_newStackLong, .ref hp0_newStack, .int p0_newBlocks, .ref hp0_newStarts, .ref hp0_newLengths, .int p0_newOthers, .ref hp0_newName, .ref hp0_newLong, .ref hp0_newByte, .int p0_came, .int p0_now, .int p0_nowAt]))] H → va_D A [(hp0_starts, .inl (E.1, 8, .inl p0_starts)), (hp0_lengths, .inl (E.1, 8, .inl p0_lengths)), (hp0_memory, .inl (E.1, 512, .inl z10)), (hp0, .inr (7, [.int (0 : Int32), .int p0_seed, .int p0_ram, .int p0_end, .int p0_m, .ref hp0_memory, .int p0_stackLong, .ref hp0_stack, .int p0_blocks, .ref hp0_starts, .ref hp0_lengths, .int p0_guardAt, .int p0_guardLong, .int p0_fileLong, .ref hp0_file, .int p0_others, .ref hp0_otherName, .ref hp0_otherLong, .ref hp0_otherByte, .int p0_wasFault, .int p0_fault, .int p0_faultAt, .int p0_undos, .ref hp0_undoM, .ref hp0_undoMemory, .ref hp0_undoStackLong, .ref hp0_undoStack, .ref hp0_undoBlocks, .ref hp0_undoStarts, .ref hp0_undoLengths, .int p0_made, .ref hp0_making, .int p0_at, .int p0_newM, .ref hp0_newMemory, .int p0_newStackLong, .ref hp0_newStack, .int p0_newBlocks, .ref hp0_newStarts, .ref hp0_newLengths, .int p0_newOthers, .ref hp0_newName, .ref hp0_newLong, .ref hp0_newByte, .int p0_came, .int p0_now, .int p0_nowAt]))] → va_S A s.heap H locs → lv_has ls 4 [(0, .ref hp0), (1, .int i1), (2, .int p0_m)] → W p l e w_rm_X8_resize s m args below meth c H locs 0 0 Q (F0 m 77 ls [])) → ∀ (n : Nat) (z10 : (Nat → Int32)) (z11 : Int32), L_X8_resize_59 i1 K77 n z10 z11 = some (r, o0, o1, o2) → ∀ (H : Heap) (locs : List Loc) (ls : Array Slot), va_P G vwCl [(hp0_starts, .inl (E.1, 8, .inl p0_starts)), (hp0_lengths, .inl (E.1, 8, .inl p0_lengths)), (hp0_memory, .inl (E.1, 512, .inl z10)), (hp0, .inr (7, [.int (0 : Int32), .int p0_seed, .int p0_ram, .int p0_end, .int p0_m, .ref hp0_memory, .int p0_stackLong, .ref hp0_stack, .int p0_blocks, .ref hp0_starts, .ref hp0_lengths, .int p0_guardAt, .int p0_guardLong, .int p0_fileLong, .ref hp0_file, .int p0_others, .ref hp0_otherName, .ref hp0_otherLong, .ref hp0_otherByte, .int p0_wasFault, .int p0_fault, .int p0_faultAt, .int p0_undos, .ref hp0_undoM, .ref hp0_undoMemory, .ref hp0_undoStackLong, .ref hp0_undoStack, .ref hp0_undoBlocks, .ref hp0_undoStarts, .ref hp0_undoLengths, .int p0_made, .ref hp0_making, .int p0_at, .int p0_newM, .ref hp0_newMemory, .int p0_newStackLong, .ref hp0_newStack, .int p0_newBlocks, .ref hp0_newStarts, .ref hp0_newLengths, .int p0_newOthers, .ref hp0_newName, .ref hp0_newLong, .ref hp0_newByte, .int p0_came, .int p0_now, .int p0_nowAt]))] H → va_D A [(hp0_starts, .inl (E.1, 8, .inl p0_starts)), (hp0_lengths, .inl (E.1, 8, .inl p0_lengths)), (hp0_memory, .inl (E.1, 512, .inl z10)), (hp0, .inr (7, [.int (0 : Int32), .int p0_seed, .int p0_ram, .int p0_end, .int p0_m, .ref hp0_memory, .int p0_stackLong, .ref hp0_stack, .int p0_blocks, .ref hp0_starts, .ref hp0_lengths, .int p0_guardAt, .int p0_guardLong, .int p0_fileLong, .ref hp0_file, .int p0_others, .ref hp0_otherName, .ref hp0_otherLong, .ref hp0_otherByte, .int p0_wasFault, .int p0_fault, .int p0_faultAt, .int p0_undos, .ref hp0_undoM, .ref hp0_undoMemory, .ref hp0_undoStackLong, .ref hp0_undoStack, .ref hp0_undoBlocks, .ref hp0_undoStarts, .ref hp0_undoLengths, .int p0_made, .ref hp0_making, .int p0_at, .int p0_newM, .ref hp0_newMemory, .int p0_newStackLong, .ref hp0_newStack, .int p0_newBlocks, .ref hp0_newStarts, .ref hp0_newLengths, .int p0_newOthers, .ref hp0_newName, .ref hp0_newLong, .ref hp0_newByte, .int p0_came, .int p0_now, .int p0_nowAt]))] → va_S A s.heap H locs → lv_has ls 4 [(0, .ref hp0), (1, .int i1), (2, .int p0_m), (3, .int z11)] → W p l e w_rm_X8_resize s m args below meth c H locs 0 0 Q (F0 m 59 ls []) := by
      intro K77 hK77 n
      induction n with
      | zero =>
        intro z10 z11 h
        replace h : (none : Option (Int32 × Int32 × Int32 × (Nat → Int32))) = some (r, o0, o1, o2) := h
        cases h
      | succ n ih =>
        intro z10 z11 h H locs ls hP hD hS hl
        replace h : B_X8_resize_59 i1 (fun z10 z11 => L_X8_resize_59 i1 K77 n z10 z11) K77 z10 z11 = some (r, o0, o1, o2) := h
        obtain ⟨rec59, hrec59⟩ : ∃ f : (Nat → Int32) → Int32 → Option (Int32 × Int32 × Int32 × (Nat → Int32)), f = (fun z10 z11 => L_X8_resize_59 i1 K77 n z10 z11) := ⟨_, rfl⟩
        rw [← hrec59] at h
        unfold B_X8_resize_59 at h
        refine lv_iload_n hx hb dX8_resize_59 rfl (lv_at hl 3 rfl) ?_
        refine lv_iload_n hx hb dX8_resize_60 rfl (lv_at hl 1 rfl) ?_
        refine lv_icmp_ge (tgt := 77) hx hb dX8_resize_61 (by decide) (fun c12 => ?_) (fun c12 => ?_)
        · replace h := if_t h c12
          exact hK77 z10 z11 h _ _ _ hP hD hS (lv_sub hl [0, 1, 2] rfl)
        · replace h := if_f h c12
          refine lv_aload_n hx hb dX8_resize_64 rfl (lv_at hl 0 rfl) ?_
          refine getF (D := G) (ci := 7) (v := .ref hp0_memory) (C := RX8) (T := TX8) (N := 47) hx hb hts inG_X8 hown hK.1 hP 3 rfl rfl 5 (by decide) tf_X8_5 (hts _ wd_adbb6bd5) rfl dX8_resize_65 ?_
          refine lv_iload_n hx hb dX8_resize_68 rfl (lv_at hl 3 rfl) ?_
          refine lv_iconst (v := 0) hx hb dX8_resize_69 (by decide) ?_
          obtain ⟨g13, h⟩ := gin_t h
          refine va_iast hx hb hK.1 hP hD hS 2 0 rfl rfl g13 dX8_resize_70 (fun H locs hP hD hS => ?_)
          have hP : va_P G vwCl [(hp0_starts, .inl (E.1, 8, .inl p0_starts)), (hp0_lengths, .inl (E.1, 8, .inl p0_lengths)), (hp0_memory, .inl (E.1, 512, .inl (upd z10 z11.toNatClampNeg (0 : Int32)))), (hp0, .inr (7, [.int (0 : Int32), .int p0_seed, .int p0_ram, .int p0_end, .int p0_m, .ref hp0_memory, .int p0_stackLong, .ref hp0_stack, .int p0_blocks, .ref hp0_starts, .ref hp0_lengths, .int p0_guardAt, .int p0_guardLong, .int p0_fileLong, .ref hp0_file, .int p0_others, .ref hp0_otherName, .ref hp0_otherLong, .ref hp0_otherByte, .int p0_wasFault, .int p0_fault, .int p0_faultAt, .int p0_undos, .ref hp0_undoM, .ref hp0_undoMemory, .ref hp0_undoStackLong, .ref hp0_undoStack, .ref hp0_undoBlocks, .ref hp0_undoStarts, .ref hp0_undoLengths, .int p0_made, .ref hp0_making, .int p0_at, .int p0_newM, .ref hp0_newMemory, .int p0_newStackLong, .ref hp0_newStack, .int p0_newBlocks, .ref hp0_newStarts, .ref hp0_newLengths, .int p0_newOthers, .ref hp0_newName, .ref hp0_newLong, .ref hp0_newByte, .int p0_came, .int p0_now, .int p0_nowAt]))] H := hP
          have hD : va_D A [(hp0_starts, .inl (E.1, 8, .inl p0_starts)), (hp0_lengths, .inl (E.1, 8, .inl p0_lengths)), (hp0_memory, .inl (E.1, 512, .inl (upd z10 z11.toNatClampNeg (0 : Int32)))), (hp0, .inr (7, [.int (0 : Int32), .int p0_seed, .int p0_ram, .int p0_end, .int p0_m, .ref hp0_memory, .int p0_stackLong, .ref hp0_stack, .int p0_blocks, .ref hp0_starts, .ref hp0_lengths, .int p0_guardAt, .int p0_guardLong, .int p0_fileLong, .ref hp0_file, .int p0_others, .ref hp0_otherName, .ref hp0_otherLong, .ref hp0_otherByte, .int p0_wasFault, .int p0_fault, .int p0_faultAt, .int p0_undos, .ref hp0_undoM, .ref hp0_undoMemory, .ref hp0_undoStackLong, .ref hp0_undoStack, .ref hp0_undoBlocks, .ref hp0_undoStarts, .ref hp0_undoLengths, .int p0_made, .ref hp0_making, .int p0_at, .int p0_newM, .ref hp0_newMemory, .int p0_newStackLong, .ref hp0_newStack, .int p0_newBlocks, .ref hp0_newStarts, .ref hp0_newLengths, .int p0_newOthers, .ref hp0_newName, .ref hp0_newLong, .ref hp0_newByte, .int p0_came, .int p0_now, .int p0_nowAt]))] := hD
          obtain ⟨m14, em14⟩ : ∃ y : Nat → Int32, y = upd z10 z11.toNatClampNeg (0 : Int32) := ⟨_, rfl⟩
          replace h := bn_t h em14
          rw [← em14] at hP hD
          obtain ⟨x15, ex15⟩ : ∃ y : Int32, y = z11 + 1 := ⟨_, rfl⟩
          replace h := bn_t h ex15
          refine lv_iinc (v := x15) (lv' := [(3, .int x15), (0, .ref hp0), (1, .int i1), (2, .int p0_m)]) hx hb dX8_resize_71 hl (k := 3) rfl (by rw [ex15]; rfl) (by decide) rfl (fun ls hl => ?_)
          refine lv_goto (tgt := 59) hx hb dX8_resize_74 (by decide) ?_
          exact ih m14 x15 (by rw [hrec59] at h; exact h) _ _ _ hP hD hS (lv_sub hl [1, 2, 3, 0] rfl)
    refine hL59 _ (fun z10 z11 h H locs ls hP hD hS hl => ?_) N p0_memory p0_m h _ _ _ hP hD hS (lv_sub hl [2, 3, 1, 0] rfl)
    try dsimp only at h
    refine lv_aload_n hx hb dX8_resize_77 rfl (lv_at hl 0 rfl) ?_
    refine lv_iload_n hx hb dX8_resize_78 rfl (lv_at hl 1 rfl) ?_
    refine putF (D := G) (ci := 7) (v := .int i1) (ty := .int) (C := RX8) (T := TX8) (N := 47) hx hb hts inG_X8 tyX8 tyX8_ok nmX8 hown hK.1 hP hD hS 3 rfl rfl 4 (by decide) tf_X8_4 (hts _ wd_6aa62c5a) pd_I rfl rfl (Nat.le_of_ble_eq_true rfl) dX8_resize_79 (fun H locs hP hD hS => ?_)
    have hP : va_P G vwCl [(hp0_starts, .inl (E.1, 8, .inl p0_starts)), (hp0_lengths, .inl (E.1, 8, .inl p0_lengths)), (hp0_memory, .inl (E.1, 512, .inl z10)), (hp0, .inr (7, [.int (0 : Int32), .int p0_seed, .int p0_ram, .int p0_end, .int i1, .ref hp0_memory, .int p0_stackLong, .ref hp0_stack, .int p0_blocks, .ref hp0_starts, .ref hp0_lengths, .int p0_guardAt, .int p0_guardLong, .int p0_fileLong, .ref hp0_file, .int p0_others, .ref hp0_otherName, .ref hp0_otherLong, .ref hp0_otherByte, .int p0_wasFault, .int p0_fault, .int p0_faultAt, .int p0_undos, .ref hp0_undoM, .ref hp0_undoMemory, .ref hp0_undoStackLong, .ref hp0_undoStack, .ref hp0_undoBlocks, .ref hp0_undoStarts, .ref hp0_undoLengths, .int p0_made, .ref hp0_making, .int p0_at, .int p0_newM, .ref hp0_newMemory, .int p0_newStackLong, .ref hp0_newStack, .int p0_newBlocks, .ref hp0_newStarts, .ref hp0_newLengths, .int p0_newOthers, .ref hp0_newName, .ref hp0_newLong, .ref hp0_newByte, .int p0_came, .int p0_now, .int p0_nowAt]))] H := hP
    have hD : va_D A [(hp0_starts, .inl (E.1, 8, .inl p0_starts)), (hp0_lengths, .inl (E.1, 8, .inl p0_lengths)), (hp0_memory, .inl (E.1, 512, .inl z10)), (hp0, .inr (7, [.int (0 : Int32), .int p0_seed, .int p0_ram, .int p0_end, .int i1, .ref hp0_memory, .int p0_stackLong, .ref hp0_stack, .int p0_blocks, .ref hp0_starts, .ref hp0_lengths, .int p0_guardAt, .int p0_guardLong, .int p0_fileLong, .ref hp0_file, .int p0_others, .ref hp0_otherName, .ref hp0_otherLong, .ref hp0_otherByte, .int p0_wasFault, .int p0_fault, .int p0_faultAt, .int p0_undos, .ref hp0_undoM, .ref hp0_undoMemory, .ref hp0_undoStackLong, .ref hp0_undoStack, .ref hp0_undoBlocks, .ref hp0_undoStarts, .ref hp0_undoLengths, .int p0_made, .ref hp0_making, .int p0_at, .int p0_newM, .ref hp0_newMemory, .int p0_newStackLong, .ref hp0_newStack, .int p0_newBlocks, .ref hp0_newStarts, .ref hp0_newLengths, .int p0_newOthers, .ref hp0_newName, .ref hp0_newLong, .ref hp0_newByte, .int p0_came, .int p0_now, .int p0_nowAt]))] := hD
    refine lv_iload_n hx hb dX8_resize_82 rfl (lv_at hl 2 rfl) ?_
    cases h
    exact ret _ _ _ _ _ (fun _ => 0) rfl rfl (hP.sub [3, 0, 1, 2] rfl) (hD.sub [3, 0, 1, 2] (by decide) rfl) hS dX8_resize_83
  · replace h := if_t h c3
    refine lv_bipush (v := (-2)) hx hb dX8_resize_13 (by decide) ?_
    cases h
    exact ret _ _ _ _ _ (fun _ => 0) rfl rfl (hP.sub [3, 0, 1, 2] rfl) (hD.sub [3, 0, 1, 2] (by decide) rfl) hS dX8_resize_15
def f_X8_push (i1 : Int32) (p0_stackLong : Int32) (p0_stack : (Nat → Int32)) : Option (Int32 × Int32 × Int32 × (Nat → Int32)) :=
  if p0_stackLong = (40 : Int32) then (
  some ((-4 : Int32), (0 : Int32), p0_stackLong, p0_stack))
  else
  gin p0_stackLong 40 <|
  bn (upd p0_stack p0_stackLong.toNatClampNeg i1) fun m3 =>
  bn (p0_stackLong + (1 : Int32)) fun x4 =>
  some (x4, (0 : Int32), x4, m3)
abbrev w_rm_X8_push : Room := { frames := 0, cells := 0, slots := 0, locals := 0 }
set_option maxHeartbeats 4000000 in
set_option maxRecDepth 100000 in
theorem c_X8_push (l : Launch) (G : va_G) (E : ClassId × ClassId × ClassId) (hp0 : Nat) (p0_thrown : Int32) (p0_seed : Int32) (p0_ram : Int32) (p0_end : Int32) (p0_m : Int32) (hp0_memory : Nat) (p0_stackLong : Int32) (hp0_stack : Nat) (p0_blocks : Int32) (hp0_starts : Nat) (hp0_lengths : Nat) (p0_guardAt : Int32) (p0_guardLong : Int32) (p0_fileLong : Int32) (hp0_file : Nat) (p0_others : Int32) (hp0_otherName : Nat) (hp0_otherLong : Nat) (hp0_otherByte : Nat) (p0_wasFault : Int32) (p0_fault : Int32) (p0_faultAt : Int32) (p0_undos : Int32) (hp0_undoM : Nat) (hp0_undoMemory : Nat) (hp0_undoStackLong : Nat) (hp0_undoStack : Nat) (hp0_undoBlocks : Nat) (hp0_undoStarts : Nat) (hp0_undoLengths : Nat) (p0_made : Int32) (hp0_making : Nat) (p0_at : Int32) (p0_newM : Int32) (hp0_newMemory : Nat) (p0_newStackLong : Int32) (hp0_newStack : Nat) (p0_newBlocks : Int32) (hp0_newStarts : Nat) (hp0_newLengths : Nat) (p0_newOthers : Int32) (hp0_newName : Nat) (hp0_newLong : Nat) (hp0_newByte : Nat) (p0_came : Int32) (p0_now : Int32) (p0_nowAt : Int32) (p0_stack : (Nat → Int32)) (i1 : Int32) (r : Int32) (o0 : Int32) (o1 : Int32) (o2 : (Nat → Int32)) (h : f_X8_push i1 p0_stackLong p0_stack = some (r, o0, o1, o2)) : MI l G E yX8_push cX8_push 2 .int w_rm_X8_push [.ref hp0, .int i1] [(hp0, .inr (7, [.int p0_thrown, .int p0_seed, .int p0_ram, .int p0_end, .int p0_m, .ref hp0_memory, .int p0_stackLong, .ref hp0_stack, .int p0_blocks, .ref hp0_starts, .ref hp0_lengths, .int p0_guardAt, .int p0_guardLong, .int p0_fileLong, .ref hp0_file, .int p0_others, .ref hp0_otherName, .ref hp0_otherLong, .ref hp0_otherByte, .int p0_wasFault, .int p0_fault, .int p0_faultAt, .int p0_undos, .ref hp0_undoM, .ref hp0_undoMemory, .ref hp0_undoStackLong, .ref hp0_undoStack, .ref hp0_undoBlocks, .ref hp0_undoStarts, .ref hp0_undoLengths, .int p0_made, .ref hp0_making, .int p0_at, .int p0_newM, .ref hp0_newMemory, .int p0_newStackLong, .ref hp0_newStack, .int p0_newBlocks, .ref hp0_newStarts, .ref hp0_newLengths, .int p0_newOthers, .ref hp0_newName, .ref hp0_newLong, .ref hp0_newByte, .int p0_came, .int p0_now, .int p0_nowAt])), (hp0_stack, .inl (E.1, 40, .inl p0_stack))] r (fun a => [(hp0, .inr (7, [.int o0, .int p0_seed, .int p0_ram, .int p0_end, .int p0_m, .ref hp0_memory, .int o1, .ref hp0_stack, .int p0_blocks, .ref hp0_starts, .ref hp0_lengths, .int p0_guardAt, .int p0_guardLong, .int p0_fileLong, .ref hp0_file, .int p0_others, .ref hp0_otherName, .ref hp0_otherLong, .ref hp0_otherByte, .int p0_wasFault, .int p0_fault, .int p0_faultAt, .int p0_undos, .ref hp0_undoM, .ref hp0_undoMemory, .ref hp0_undoStackLong, .ref hp0_undoStack, .ref hp0_undoBlocks, .ref hp0_undoStarts, .ref hp0_undoLengths, .int p0_made, .ref hp0_making, .int p0_at, .int p0_newM, .ref hp0_newMemory, .int p0_newStackLong, .ref hp0_newStack, .int p0_newBlocks, .ref hp0_newStarts, .ref hp0_newLengths, .int p0_newOthers, .ref hp0_newName, .ref hp0_newLong, .ref hp0_newByte, .int p0_came, .int p0_now, .int p0_nowAt])), (hp0_stack, .inl (E.1, 40, .inl o2))]) 0 0 := by
  refine MI_of (by decide) (Nat.le_of_ble_eq_true rfl) ?_
  intro p e s m args below meth c A Q hx hb hml hown hts hK hA hP hD hS ret ls hl
  replace hl : lv_has ls 2 [(0, .ref hp0), (1, .int i1)] := hl
  unfold f_X8_push at h
  refine lv_aload_n hx hb dX8_push_0 rfl (lv_at hl 0 rfl) ?_
  refine lv_iconst (v := 0) hx hb dX8_push_1 (by decide) ?_
  refine putF (D := G) (ci := 7) (v := .int (0 : Int32)) (ty := .int) (C := RX8) (T := TX8) (N := 47) hx hb hts inG_X8 tyX8 tyX8_ok nmX8 hown hK.1 hP hD hS 0 rfl rfl 0 (by decide) tf_X8_0 (hts _ wd_d7e2667f) pd_I rfl rfl (Nat.le_of_ble_eq_true rfl) dX8_push_2 (fun H locs hP hD hS => ?_)
  have hP : va_P G vwCl [(hp0, .inr (7, [.int (0 : Int32), .int p0_seed, .int p0_ram, .int p0_end, .int p0_m, .ref hp0_memory, .int p0_stackLong, .ref hp0_stack, .int p0_blocks, .ref hp0_starts, .ref hp0_lengths, .int p0_guardAt, .int p0_guardLong, .int p0_fileLong, .ref hp0_file, .int p0_others, .ref hp0_otherName, .ref hp0_otherLong, .ref hp0_otherByte, .int p0_wasFault, .int p0_fault, .int p0_faultAt, .int p0_undos, .ref hp0_undoM, .ref hp0_undoMemory, .ref hp0_undoStackLong, .ref hp0_undoStack, .ref hp0_undoBlocks, .ref hp0_undoStarts, .ref hp0_undoLengths, .int p0_made, .ref hp0_making, .int p0_at, .int p0_newM, .ref hp0_newMemory, .int p0_newStackLong, .ref hp0_newStack, .int p0_newBlocks, .ref hp0_newStarts, .ref hp0_newLengths, .int p0_newOthers, .ref hp0_newName, .ref hp0_newLong, .ref hp0_newByte, .int p0_came, .int p0_now, .int p0_nowAt])), (hp0_stack, .inl (E.1, 40, .inl p0_stack))] H := hP
  have hD : va_D A [(hp0, .inr (7, [.int (0 : Int32), .int p0_seed, .int p0_ram, .int p0_end, .int p0_m, .ref hp0_memory, .int p0_stackLong, .ref hp0_stack, .int p0_blocks, .ref hp0_starts, .ref hp0_lengths, .int p0_guardAt, .int p0_guardLong, .int p0_fileLong, .ref hp0_file, .int p0_others, .ref hp0_otherName, .ref hp0_otherLong, .ref hp0_otherByte, .int p0_wasFault, .int p0_fault, .int p0_faultAt, .int p0_undos, .ref hp0_undoM, .ref hp0_undoMemory, .ref hp0_undoStackLong, .ref hp0_undoStack, .ref hp0_undoBlocks, .ref hp0_undoStarts, .ref hp0_undoLengths, .int p0_made, .ref hp0_making, .int p0_at, .int p0_newM, .ref hp0_newMemory, .int p0_newStackLong, .ref hp0_newStack, .int p0_newBlocks, .ref hp0_newStarts, .ref hp0_newLengths, .int p0_newOthers, .ref hp0_newName, .ref hp0_newLong, .ref hp0_newByte, .int p0_came, .int p0_now, .int p0_nowAt])), (hp0_stack, .inl (E.1, 40, .inl p0_stack))] := hD
  refine lv_aload_n hx hb dX8_push_5 rfl (lv_at hl 0 rfl) ?_
  refine getF (D := G) (ci := 7) (v := .int p0_stackLong) (C := RX8) (T := TX8) (N := 47) hx hb hts inG_X8 hown hK.1 hP 0 rfl rfl 6 (by decide) tf_X8_6 (hts _ wd_52b4b4cc) rfl dX8_push_6 ?_
  refine lv_bipush (v := 40) hx hb dX8_push_9 (by decide) ?_
  refine lv_icmp_ne (tgt := 17) hx hb dX8_push_11 (by decide) (fun c1 => ?_) (fun c1 => ?_)
  · replace h := if_f h c1
    refine lv_aload_n hx hb dX8_push_17 rfl (lv_at hl 0 rfl) ?_
    refine getF (D := G) (ci := 7) (v := .ref hp0_stack) (C := RX8) (T := TX8) (N := 47) hx hb hts inG_X8 hown hK.1 hP 0 rfl rfl 7 (by decide) tf_X8_7 (hts _ wd_0b6798c7) rfl dX8_push_18 ?_
    refine lv_aload_n hx hb dX8_push_21 rfl (lv_at hl 0 rfl) ?_
    refine getF (D := G) (ci := 7) (v := .int p0_stackLong) (C := RX8) (T := TX8) (N := 47) hx hb hts inG_X8 hown hK.1 hP 0 rfl rfl 6 (by decide) tf_X8_6 (hts _ wd_52b4b4cc) rfl dX8_push_22 ?_
    refine lv_iload_n hx hb dX8_push_25 rfl (lv_at hl 1 rfl) ?_
    obtain ⟨g2, h⟩ := gin_t h
    refine va_iast hx hb hK.1 hP hD hS 1 0 rfl rfl g2 dX8_push_26 (fun H locs hP hD hS => ?_)
    have hP : va_P G vwCl [(hp0, .inr (7, [.int (0 : Int32), .int p0_seed, .int p0_ram, .int p0_end, .int p0_m, .ref hp0_memory, .int p0_stackLong, .ref hp0_stack, .int p0_blocks, .ref hp0_starts, .ref hp0_lengths, .int p0_guardAt, .int p0_guardLong, .int p0_fileLong, .ref hp0_file, .int p0_others, .ref hp0_otherName, .ref hp0_otherLong, .ref hp0_otherByte, .int p0_wasFault, .int p0_fault, .int p0_faultAt, .int p0_undos, .ref hp0_undoM, .ref hp0_undoMemory, .ref hp0_undoStackLong, .ref hp0_undoStack, .ref hp0_undoBlocks, .ref hp0_undoStarts, .ref hp0_undoLengths, .int p0_made, .ref hp0_making, .int p0_at, .int p0_newM, .ref hp0_newMemory, .int p0_newStackLong, .ref hp0_newStack, .int p0_newBlocks, .ref hp0_newStarts, .ref hp0_newLengths, .int p0_newOthers, .ref hp0_newName, .ref hp0_newLong, .ref hp0_newByte, .int p0_came, .int p0_now, .int p0_nowAt])), (hp0_stack, .inl (E.1, 40, .inl (upd p0_stack p0_stackLong.toNatClampNeg i1)))] H := hP
    have hD : va_D A [(hp0, .inr (7, [.int (0 : Int32), .int p0_seed, .int p0_ram, .int p0_end, .int p0_m, .ref hp0_memory, .int p0_stackLong, .ref hp0_stack, .int p0_blocks, .ref hp0_starts, .ref hp0_lengths, .int p0_guardAt, .int p0_guardLong, .int p0_fileLong, .ref hp0_file, .int p0_others, .ref hp0_otherName, .ref hp0_otherLong, .ref hp0_otherByte, .int p0_wasFault, .int p0_fault, .int p0_faultAt, .int p0_undos, .ref hp0_undoM, .ref hp0_undoMemory, .ref hp0_undoStackLong, .ref hp0_undoStack, .ref hp0_undoBlocks, .ref hp0_undoStarts, .ref hp0_undoLengths, .int p0_made, .ref hp0_making, .int p0_at, .int p0_newM, .ref hp0_newMemory, .int p0_newStackLong, .ref hp0_newStack, .int p0_newBlocks, .ref hp0_newStarts, .ref hp0_newLengths, .int p0_newOthers, .ref hp0_newName, .ref hp0_newLong, .ref hp0_newByte, .int p0_came, .int p0_now, .int p0_nowAt])), (hp0_stack, .inl (E.1, 40, .inl (upd p0_stack p0_stackLong.toNatClampNeg i1)))] := hD
    obtain ⟨m3, em3⟩ : ∃ y : Nat → Int32, y = upd p0_stack p0_stackLong.toNatClampNeg i1 := ⟨_, rfl⟩
    replace h := bn_t h em3
    rw [← em3] at hP hD
    refine lv_aload_n hx hb dX8_push_27 rfl (lv_at hl 0 rfl) ?_
    refine lv_dup hx hb dX8_push_28 rfl ?_
    refine getF (D := G) (ci := 7) (v := .int p0_stackLong) (C := RX8) (T := TX8) (N := 47) hx hb hts inG_X8 hown hK.1 hP 0 rfl rfl 6 (by decide) tf_X8_6 (hts _ wd_52b4b4cc) rfl dX8_push_29 ?_
    refine lv_iconst (v := 1) hx hb dX8_push_32 (by decide) ?_
    refine lv_iadd hx hb dX8_push_33 ?_
    refine lv_topi (fun x4 ex4 => ?_)
    replace h := bn_t h ex4
    refine putF (D := G) (ci := 7) (v := .int x4) (ty := .int) (C := RX8) (T := TX8) (N := 47) hx hb hts inG_X8 tyX8 tyX8_ok nmX8 hown hK.1 hP hD hS 0 rfl rfl 6 (by decide) tf_X8_6 (hts _ wd_52b4b4cc) pd_I rfl rfl (Nat.le_of_ble_eq_true rfl) dX8_push_34 (fun H locs hP hD hS => ?_)
    have hP : va_P G vwCl [(hp0, .inr (7, [.int (0 : Int32), .int p0_seed, .int p0_ram, .int p0_end, .int p0_m, .ref hp0_memory, .int x4, .ref hp0_stack, .int p0_blocks, .ref hp0_starts, .ref hp0_lengths, .int p0_guardAt, .int p0_guardLong, .int p0_fileLong, .ref hp0_file, .int p0_others, .ref hp0_otherName, .ref hp0_otherLong, .ref hp0_otherByte, .int p0_wasFault, .int p0_fault, .int p0_faultAt, .int p0_undos, .ref hp0_undoM, .ref hp0_undoMemory, .ref hp0_undoStackLong, .ref hp0_undoStack, .ref hp0_undoBlocks, .ref hp0_undoStarts, .ref hp0_undoLengths, .int p0_made, .ref hp0_making, .int p0_at, .int p0_newM, .ref hp0_newMemory, .int p0_newStackLong, .ref hp0_newStack, .int p0_newBlocks, .ref hp0_newStarts, .ref hp0_newLengths, .int p0_newOthers, .ref hp0_newName, .ref hp0_newLong, .ref hp0_newByte, .int p0_came, .int p0_now, .int p0_nowAt])), (hp0_stack, .inl (E.1, 40, .inl m3))] H := hP
    have hD : va_D A [(hp0, .inr (7, [.int (0 : Int32), .int p0_seed, .int p0_ram, .int p0_end, .int p0_m, .ref hp0_memory, .int x4, .ref hp0_stack, .int p0_blocks, .ref hp0_starts, .ref hp0_lengths, .int p0_guardAt, .int p0_guardLong, .int p0_fileLong, .ref hp0_file, .int p0_others, .ref hp0_otherName, .ref hp0_otherLong, .ref hp0_otherByte, .int p0_wasFault, .int p0_fault, .int p0_faultAt, .int p0_undos, .ref hp0_undoM, .ref hp0_undoMemory, .ref hp0_undoStackLong, .ref hp0_undoStack, .ref hp0_undoBlocks, .ref hp0_undoStarts, .ref hp0_undoLengths, .int p0_made, .ref hp0_making, .int p0_at, .int p0_newM, .ref hp0_newMemory, .int p0_newStackLong, .ref hp0_newStack, .int p0_newBlocks, .ref hp0_newStarts, .ref hp0_newLengths, .int p0_newOthers, .ref hp0_newName, .ref hp0_newLong, .ref hp0_newByte, .int p0_came, .int p0_now, .int p0_nowAt])), (hp0_stack, .inl (E.1, 40, .inl m3))] := hD
    refine lv_aload_n hx hb dX8_push_37 rfl (lv_at hl 0 rfl) ?_
    refine getF (D := G) (ci := 7) (v := .int x4) (C := RX8) (T := TX8) (N := 47) hx hb hts inG_X8 hown hK.1 hP 0 rfl rfl 6 (by decide) tf_X8_6 (hts _ wd_52b4b4cc) rfl dX8_push_38 ?_
    cases h
    exact ret _ _ _ _ _ (fun _ => 0) rfl rfl hP hD hS dX8_push_41
  · replace h := if_t h c1
    refine lv_bipush (v := (-4)) hx hb dX8_push_14 (by decide) ?_
    cases h
    exact ret _ _ _ _ _ (fun _ => 0) rfl rfl hP hD hS dX8_push_16
def f_X8_pop (p0_stackLong : Int32) (p0_stack : (Nat → Int32)) : Option (Int32 × Int32 × Int32) :=
  if p0_stackLong = 0 then (
  some ((0 : Int32), (1 : Int32), p0_stackLong))
  else
  bn (p0_stackLong - (1 : Int32)) fun x2 =>
  gin x2 40 <|
  some (p0_stack x2.toNatClampNeg, (0 : Int32), x2)
abbrev w_rm_X8_pop : Room := { frames := 0, cells := 0, slots := 0, locals := 0 }
set_option maxHeartbeats 4000000 in
set_option maxRecDepth 100000 in
theorem c_X8_pop (l : Launch) (G : va_G) (E : ClassId × ClassId × ClassId) (hp0 : Nat) (p0_thrown : Int32) (p0_seed : Int32) (p0_ram : Int32) (p0_end : Int32) (p0_m : Int32) (hp0_memory : Nat) (p0_stackLong : Int32) (hp0_stack : Nat) (p0_blocks : Int32) (hp0_starts : Nat) (hp0_lengths : Nat) (p0_guardAt : Int32) (p0_guardLong : Int32) (p0_fileLong : Int32) (hp0_file : Nat) (p0_others : Int32) (hp0_otherName : Nat) (hp0_otherLong : Nat) (hp0_otherByte : Nat) (p0_wasFault : Int32) (p0_fault : Int32) (p0_faultAt : Int32) (p0_undos : Int32) (hp0_undoM : Nat) (hp0_undoMemory : Nat) (hp0_undoStackLong : Nat) (hp0_undoStack : Nat) (hp0_undoBlocks : Nat) (hp0_undoStarts : Nat) (hp0_undoLengths : Nat) (p0_made : Int32) (hp0_making : Nat) (p0_at : Int32) (p0_newM : Int32) (hp0_newMemory : Nat) (p0_newStackLong : Int32) (hp0_newStack : Nat) (p0_newBlocks : Int32) (hp0_newStarts : Nat) (hp0_newLengths : Nat) (p0_newOthers : Int32) (hp0_newName : Nat) (hp0_newLong : Nat) (hp0_newByte : Nat) (p0_came : Int32) (p0_now : Int32) (p0_nowAt : Int32) (p0_stack : (Nat → Int32)) (r : Int32) (o0 : Int32) (o1 : Int32) (h : f_X8_pop p0_stackLong p0_stack = some (r, o0, o1)) : MI l G E yX8_pop cX8_pop 1 .int w_rm_X8_pop [.ref hp0] [(hp0, .inr (7, [.int p0_thrown, .int p0_seed, .int p0_ram, .int p0_end, .int p0_m, .ref hp0_memory, .int p0_stackLong, .ref hp0_stack, .int p0_blocks, .ref hp0_starts, .ref hp0_lengths, .int p0_guardAt, .int p0_guardLong, .int p0_fileLong, .ref hp0_file, .int p0_others, .ref hp0_otherName, .ref hp0_otherLong, .ref hp0_otherByte, .int p0_wasFault, .int p0_fault, .int p0_faultAt, .int p0_undos, .ref hp0_undoM, .ref hp0_undoMemory, .ref hp0_undoStackLong, .ref hp0_undoStack, .ref hp0_undoBlocks, .ref hp0_undoStarts, .ref hp0_undoLengths, .int p0_made, .ref hp0_making, .int p0_at, .int p0_newM, .ref hp0_newMemory, .int p0_newStackLong, .ref hp0_newStack, .int p0_newBlocks, .ref hp0_newStarts, .ref hp0_newLengths, .int p0_newOthers, .ref hp0_newName, .ref hp0_newLong, .ref hp0_newByte, .int p0_came, .int p0_now, .int p0_nowAt])), (hp0_stack, .inl (E.1, 40, .inl p0_stack))] r (fun a => [(hp0, .inr (7, [.int o0, .int p0_seed, .int p0_ram, .int p0_end, .int p0_m, .ref hp0_memory, .int o1, .ref hp0_stack, .int p0_blocks, .ref hp0_starts, .ref hp0_lengths, .int p0_guardAt, .int p0_guardLong, .int p0_fileLong, .ref hp0_file, .int p0_others, .ref hp0_otherName, .ref hp0_otherLong, .ref hp0_otherByte, .int p0_wasFault, .int p0_fault, .int p0_faultAt, .int p0_undos, .ref hp0_undoM, .ref hp0_undoMemory, .ref hp0_undoStackLong, .ref hp0_undoStack, .ref hp0_undoBlocks, .ref hp0_undoStarts, .ref hp0_undoLengths, .int p0_made, .ref hp0_making, .int p0_at, .int p0_newM, .ref hp0_newMemory, .int p0_newStackLong, .ref hp0_newStack, .int p0_newBlocks, .ref hp0_newStarts, .ref hp0_newLengths, .int p0_newOthers, .ref hp0_newName, .ref hp0_newLong, .ref hp0_newByte, .int p0_came, .int p0_now, .int p0_nowAt])), (hp0_stack, .inl (E.1, 40, .inl p0_stack))]) 0 0 := by
  refine MI_of (by decide) (Nat.le_of_ble_eq_true rfl) ?_
  intro p e s m args below meth c A Q hx hb hml hown hts hK hA hP hD hS ret ls hl
  replace hl : lv_has ls 1 [(0, .ref hp0)] := hl
  unfold f_X8_pop at h
  refine lv_aload_n hx hb dX8_pop_0 rfl (lv_at hl 0 rfl) ?_
  refine lv_iconst (v := 0) hx hb dX8_pop_1 (by decide) ?_
  refine putF (D := G) (ci := 7) (v := .int (0 : Int32)) (ty := .int) (C := RX8) (T := TX8) (N := 47) hx hb hts inG_X8 tyX8 tyX8_ok nmX8 hown hK.1 hP hD hS 0 rfl rfl 0 (by decide) tf_X8_0 (hts _ wd_d7e2667f) pd_I rfl rfl (Nat.le_of_ble_eq_true rfl) dX8_pop_2 (fun H locs hP hD hS => ?_)
  have hP : va_P G vwCl [(hp0, .inr (7, [.int (0 : Int32), .int p0_seed, .int p0_ram, .int p0_end, .int p0_m, .ref hp0_memory, .int p0_stackLong, .ref hp0_stack, .int p0_blocks, .ref hp0_starts, .ref hp0_lengths, .int p0_guardAt, .int p0_guardLong, .int p0_fileLong, .ref hp0_file, .int p0_others, .ref hp0_otherName, .ref hp0_otherLong, .ref hp0_otherByte, .int p0_wasFault, .int p0_fault, .int p0_faultAt, .int p0_undos, .ref hp0_undoM, .ref hp0_undoMemory, .ref hp0_undoStackLong, .ref hp0_undoStack, .ref hp0_undoBlocks, .ref hp0_undoStarts, .ref hp0_undoLengths, .int p0_made, .ref hp0_making, .int p0_at, .int p0_newM, .ref hp0_newMemory, .int p0_newStackLong, .ref hp0_newStack, .int p0_newBlocks, .ref hp0_newStarts, .ref hp0_newLengths, .int p0_newOthers, .ref hp0_newName, .ref hp0_newLong, .ref hp0_newByte, .int p0_came, .int p0_now, .int p0_nowAt])), (hp0_stack, .inl (E.1, 40, .inl p0_stack))] H := hP
  have hD : va_D A [(hp0, .inr (7, [.int (0 : Int32), .int p0_seed, .int p0_ram, .int p0_end, .int p0_m, .ref hp0_memory, .int p0_stackLong, .ref hp0_stack, .int p0_blocks, .ref hp0_starts, .ref hp0_lengths, .int p0_guardAt, .int p0_guardLong, .int p0_fileLong, .ref hp0_file, .int p0_others, .ref hp0_otherName, .ref hp0_otherLong, .ref hp0_otherByte, .int p0_wasFault, .int p0_fault, .int p0_faultAt, .int p0_undos, .ref hp0_undoM, .ref hp0_undoMemory, .ref hp0_undoStackLong, .ref hp0_undoStack, .ref hp0_undoBlocks, .ref hp0_undoStarts, .ref hp0_undoLengths, .int p0_made, .ref hp0_making, .int p0_at, .int p0_newM, .ref hp0_newMemory, .int p0_newStackLong, .ref hp0_newStack, .int p0_newBlocks, .ref hp0_newStarts, .ref hp0_newLengths, .int p0_newOthers, .ref hp0_newName, .ref hp0_newLong, .ref hp0_newByte, .int p0_came, .int p0_now, .int p0_nowAt])), (hp0_stack, .inl (E.1, 40, .inl p0_stack))] := hD
  refine lv_aload_n hx hb dX8_pop_5 rfl (lv_at hl 0 rfl) ?_
  refine getF (D := G) (ci := 7) (v := .int p0_stackLong) (C := RX8) (T := TX8) (N := 47) hx hb hts inG_X8 hown hK.1 hP 0 rfl rfl 6 (by decide) tf_X8_6 (hts _ wd_52b4b4cc) rfl dX8_pop_6 ?_
  refine lv_if_ne (tgt := 19) hx hb dX8_pop_9 (by decide) (fun c1 => ?_) (fun c1 => ?_)
  · replace h := if_f h c1
    refine lv_aload_n hx hb dX8_pop_19 rfl (lv_at hl 0 rfl) ?_
    refine lv_dup hx hb dX8_pop_20 rfl ?_
    refine getF (D := G) (ci := 7) (v := .int p0_stackLong) (C := RX8) (T := TX8) (N := 47) hx hb hts inG_X8 hown hK.1 hP 0 rfl rfl 6 (by decide) tf_X8_6 (hts _ wd_52b4b4cc) rfl dX8_pop_21 ?_
    refine lv_iconst (v := 1) hx hb dX8_pop_24 (by decide) ?_
    refine lv_isub hx hb dX8_pop_25 ?_
    refine lv_topi (fun x2 ex2 => ?_)
    replace h := bn_t h ex2
    refine putF (D := G) (ci := 7) (v := .int x2) (ty := .int) (C := RX8) (T := TX8) (N := 47) hx hb hts inG_X8 tyX8 tyX8_ok nmX8 hown hK.1 hP hD hS 0 rfl rfl 6 (by decide) tf_X8_6 (hts _ wd_52b4b4cc) pd_I rfl rfl (Nat.le_of_ble_eq_true rfl) dX8_pop_26 (fun H locs hP hD hS => ?_)
    have hP : va_P G vwCl [(hp0, .inr (7, [.int (0 : Int32), .int p0_seed, .int p0_ram, .int p0_end, .int p0_m, .ref hp0_memory, .int x2, .ref hp0_stack, .int p0_blocks, .ref hp0_starts, .ref hp0_lengths, .int p0_guardAt, .int p0_guardLong, .int p0_fileLong, .ref hp0_file, .int p0_others, .ref hp0_otherName, .ref hp0_otherLong, .ref hp0_otherByte, .int p0_wasFault, .int p0_fault, .int p0_faultAt, .int p0_undos, .ref hp0_undoM, .ref hp0_undoMemory, .ref hp0_undoStackLong, .ref hp0_undoStack, .ref hp0_undoBlocks, .ref hp0_undoStarts, .ref hp0_undoLengths, .int p0_made, .ref hp0_making, .int p0_at, .int p0_newM, .ref hp0_newMemory, .int p0_newStackLong, .ref hp0_newStack, .int p0_newBlocks, .ref hp0_newStarts, .ref hp0_newLengths, .int p0_newOthers, .ref hp0_newName, .ref hp0_newLong, .ref hp0_newByte, .int p0_came, .int p0_now, .int p0_nowAt])), (hp0_stack, .inl (E.1, 40, .inl p0_stack))] H := hP
    have hD : va_D A [(hp0, .inr (7, [.int (0 : Int32), .int p0_seed, .int p0_ram, .int p0_end, .int p0_m, .ref hp0_memory, .int x2, .ref hp0_stack, .int p0_blocks, .ref hp0_starts, .ref hp0_lengths, .int p0_guardAt, .int p0_guardLong, .int p0_fileLong, .ref hp0_file, .int p0_others, .ref hp0_otherName, .ref hp0_otherLong, .ref hp0_otherByte, .int p0_wasFault, .int p0_fault, .int p0_faultAt, .int p0_undos, .ref hp0_undoM, .ref hp0_undoMemory, .ref hp0_undoStackLong, .ref hp0_undoStack, .ref hp0_undoBlocks, .ref hp0_undoStarts, .ref hp0_undoLengths, .int p0_made, .ref hp0_making, .int p0_at, .int p0_newM, .ref hp0_newMemory, .int p0_newStackLong, .ref hp0_newStack, .int p0_newBlocks, .ref hp0_newStarts, .ref hp0_newLengths, .int p0_newOthers, .ref hp0_newName, .ref hp0_newLong, .ref hp0_newByte, .int p0_came, .int p0_now, .int p0_nowAt])), (hp0_stack, .inl (E.1, 40, .inl p0_stack))] := hD
    refine lv_aload_n hx hb dX8_pop_29 rfl (lv_at hl 0 rfl) ?_
    refine getF (D := G) (ci := 7) (v := .ref hp0_stack) (C := RX8) (T := TX8) (N := 47) hx hb hts inG_X8 hown hK.1 hP 0 rfl rfl 7 (by decide) tf_X8_7 (hts _ wd_0b6798c7) rfl dX8_pop_30 ?_
    refine lv_aload_n hx hb dX8_pop_33 rfl (lv_at hl 0 rfl) ?_
    refine getF (D := G) (ci := 7) (v := .int x2) (C := RX8) (T := TX8) (N := 47) hx hb hts inG_X8 hown hK.1 hP 0 rfl rfl 6 (by decide) tf_X8_6 (hts _ wd_52b4b4cc) rfl dX8_pop_34 ?_
    obtain ⟨g3, h⟩ := gin_t h
    refine va_iald hx hb hK.1 hP 1 0 rfl rfl g3 dX8_pop_37 ?_
    cases h
    exact ret _ _ _ _ _ (fun _ => 0) rfl rfl hP hD hS dX8_pop_38
  · replace h := if_t h c1
    refine lv_aload_n hx hb dX8_pop_12 rfl (lv_at hl 0 rfl) ?_
    refine lv_iconst (v := 1) hx hb dX8_pop_13 (by decide) ?_
    refine putF (D := G) (ci := 7) (v := .int (1 : Int32)) (ty := .int) (C := RX8) (T := TX8) (N := 47) hx hb hts inG_X8 tyX8 tyX8_ok nmX8 hown hK.1 hP hD hS 0 rfl rfl 0 (by decide) tf_X8_0 (hts _ wd_d7e2667f) pd_I rfl rfl (Nat.le_of_ble_eq_true rfl) dX8_pop_14 (fun H locs hP hD hS => ?_)
    have hP : va_P G vwCl [(hp0, .inr (7, [.int (1 : Int32), .int p0_seed, .int p0_ram, .int p0_end, .int p0_m, .ref hp0_memory, .int p0_stackLong, .ref hp0_stack, .int p0_blocks, .ref hp0_starts, .ref hp0_lengths, .int p0_guardAt, .int p0_guardLong, .int p0_fileLong, .ref hp0_file, .int p0_others, .ref hp0_otherName, .ref hp0_otherLong, .ref hp0_otherByte, .int p0_wasFault, .int p0_fault, .int p0_faultAt, .int p0_undos, .ref hp0_undoM, .ref hp0_undoMemory, .ref hp0_undoStackLong, .ref hp0_undoStack, .ref hp0_undoBlocks, .ref hp0_undoStarts, .ref hp0_undoLengths, .int p0_made, .ref hp0_making, .int p0_at, .int p0_newM, .ref hp0_newMemory, .int p0_newStackLong, .ref hp0_newStack, .int p0_newBlocks, .ref hp0_newStarts, .ref hp0_newLengths, .int p0_newOthers, .ref hp0_newName, .ref hp0_newLong, .ref hp0_newByte, .int p0_came, .int p0_now, .int p0_nowAt])), (hp0_stack, .inl (E.1, 40, .inl p0_stack))] H := hP
    have hD : va_D A [(hp0, .inr (7, [.int (1 : Int32), .int p0_seed, .int p0_ram, .int p0_end, .int p0_m, .ref hp0_memory, .int p0_stackLong, .ref hp0_stack, .int p0_blocks, .ref hp0_starts, .ref hp0_lengths, .int p0_guardAt, .int p0_guardLong, .int p0_fileLong, .ref hp0_file, .int p0_others, .ref hp0_otherName, .ref hp0_otherLong, .ref hp0_otherByte, .int p0_wasFault, .int p0_fault, .int p0_faultAt, .int p0_undos, .ref hp0_undoM, .ref hp0_undoMemory, .ref hp0_undoStackLong, .ref hp0_undoStack, .ref hp0_undoBlocks, .ref hp0_undoStarts, .ref hp0_undoLengths, .int p0_made, .ref hp0_making, .int p0_at, .int p0_newM, .ref hp0_newMemory, .int p0_newStackLong, .ref hp0_newStack, .int p0_newBlocks, .ref hp0_newStarts, .ref hp0_newLengths, .int p0_newOthers, .ref hp0_newName, .ref hp0_newLong, .ref hp0_newByte, .int p0_came, .int p0_now, .int p0_nowAt])), (hp0_stack, .inl (E.1, 40, .inl p0_stack))] := hD
    refine lv_iconst (v := 0) hx hb dX8_pop_17 (by decide) ?_
    cases h
    exact ret _ _ _ _ _ (fun _ => 0) rfl rfl hP hD hS dX8_pop_18
def J_X8_block_109 (z7 : Int32) (z8 : Int32) (rec48 : Int32 → Int32 → Option (Int32 × Int32 × Int32 × (Nat → Int32) × (Nat → Int32))) (y15 : Int32) : Option (Int32 × Int32 × Int32 × (Nat → Int32) × (Nat → Int32)) :=
  bn (z7 + y15) fun x16 =>
  bn (z8 + 1) fun x17 =>
  rec48 x16 x17
def J_X8_block_92 (i1 : Int32) (p0_starts : (Nat → Int32)) (z7 : Int32) (z8 : Int32) (rec48 : Int32 → Int32 → Option (Int32 × Int32 × Int32 × (Nat → Int32) × (Nat → Int32)))  : Option (Int32 × Int32 × Int32 × (Nat → Int32) × (Nat → Int32)) :=
  gin z8 8 <|
  if i1 ≤ (p0_starts z8.toNatClampNeg) then (
  J_X8_block_109 z7 z8 rec48 (0 : Int32))
  else
  J_X8_block_109 z7 z8 rec48 (1 : Int32)
def B_X8_block_48 (i1 : Int32) (i2 : Int32) (p0_blocks : Int32) (p0_starts : (Nat → Int32)) (p0_lengths : (Nat → Int32)) (rec48 : Int32 → Int32 → Option (Int32 × Int32 × Int32 × (Nat → Int32) × (Nat → Int32))) (K117 : Int32 → Int32 → Option (Int32 × Int32 × Int32 × (Nat → Int32) × (Nat → Int32))) (z7 : Int32) (z8 : Int32) : Option (Int32 × Int32 × Int32 × (Nat → Int32) × (Nat → Int32)) :=
  if p0_blocks ≤ z8 then (
  K117 z7 z8)
  else
  gin z8 8 <|
  gin z8 8 <|
  if ((p0_starts z8.toNatClampNeg) + (p0_lengths z8.toNatClampNeg)) ≤ i1 then (
  J_X8_block_92 i1 p0_starts z7 z8 rec48)
  else
  gin z8 8 <|
  if (i1 + i2) ≤ (p0_starts z8.toNatClampNeg) then (
  J_X8_block_92 i1 p0_starts z7 z8 rec48)
  else
  some ((-3 : Int32), (0 : Int32), p0_blocks, p0_starts, p0_lengths)
def L_X8_block_48 (i1 : Int32) (i2 : Int32) (p0_blocks : Int32) (p0_starts : (Nat → Int32)) (p0_lengths : (Nat → Int32)) (K117 : Int32 → Int32 → Option (Int32 × Int32 × Int32 × (Nat → Int32) × (Nat → Int32))) : Nat → Int32 → Int32 → Option (Int32 × Int32 × Int32 × (Nat → Int32) × (Nat → Int32))
    | 0, _, _ => none
    | n + 1, z7, z8 => B_X8_block_48 i1 i2 p0_blocks p0_starts p0_lengths (fun z7 z8 => L_X8_block_48 i1 i2 p0_blocks p0_starts p0_lengths K117 n z7 z8) K117 z7 z8
def B_X8_block_135 (z7 : Int32) (rec135 : (Nat → Int32) → (Nat → Int32) → Int32 → Option (Int32 × Int32 × Int32 × (Nat → Int32) × (Nat → Int32))) (K179 : (Nat → Int32) → (Nat → Int32) → Int32 → Option (Int32 × Int32 × Int32 × (Nat → Int32) × (Nat → Int32))) (z21 : (Nat → Int32)) (z22 : (Nat → Int32)) (z23 : Int32) : Option (Int32 × Int32 × Int32 × (Nat → Int32) × (Nat → Int32)) :=
  if z23 ≤ z7 then (
  K179 z21 z22 z23)
  else
  gin (z23 - (1 : Int32)) 8 <|
  bn (z21 (z23 - (1 : Int32)).toNatClampNeg) fun x26 =>
  gin z23 8 <|
  bn (upd z21 z23.toNatClampNeg x26) fun m28 =>
  gin (z23 - (1 : Int32)) 8 <|
  bn (z22 (z23 - (1 : Int32)).toNatClampNeg) fun x30 =>
  gin z23 8 <|
  bn (upd z22 z23.toNatClampNeg x30) fun m32 =>
  bn (z23 + (-1)) fun x33 =>
  rec135 m28 m32 x33
def L_X8_block_135 (z7 : Int32) (K179 : (Nat → Int32) → (Nat → Int32) → Int32 → Option (Int32 × Int32 × Int32 × (Nat → Int32) × (Nat → Int32))) : Nat → (Nat → Int32) → (Nat → Int32) → Int32 → Option (Int32 × Int32 × Int32 × (Nat → Int32) × (Nat → Int32))
    | 0, _, _, _ => none
    | n + 1, z21, z22, z23 => B_X8_block_135 z7 (fun z21 z22 z23 => L_X8_block_135 z7 K179 n z21 z22 z23) K179 z21 z22 z23
def f_X8_block (N : Nat) (i1 : Int32) (i2 : Int32) (p0_end : Int32) (p0_m : Int32) (p0_blocks : Int32) (p0_starts : (Nat → Int32)) (p0_lengths : (Nat → Int32)) : Option (Int32 × Int32 × Int32 × (Nat → Int32) × (Nat → Int32)) :=
  bd (f_X8_in i2.toInt64 (1 : Int64) (64 : Int64)) fun u1 =>
  if u1 = 0 then (
  some ((-2 : Int32), (0 : Int32), p0_blocks, p0_starts, p0_lengths))
  else
  bd (f_X8_in i1.toInt64 p0_end.toInt64 ((p0_m - i2).toInt64)) fun u4 =>
  if u4 = 0 then (
  some ((-3 : Int32), (0 : Int32), p0_blocks, p0_starts, p0_lengths))
  else
  L_X8_block_48 i1 i2 p0_blocks p0_starts p0_lengths 
  (fun z7 z8 =>
  if p0_blocks = (8 : Int32) then (
  some ((-4 : Int32), (0 : Int32), p0_blocks, p0_starts, p0_lengths))
  else
  L_X8_block_135 z7 
  (fun z21 z22 z23 =>
  gin z7 8 <|
  bn (upd z21 z7.toNatClampNeg i1) fun m35 =>
  gin z7 8 <|
  bn (upd z22 z7.toNatClampNeg i2) fun m37 =>
  bn (p0_blocks + (1 : Int32)) fun x38 =>
  some (x38, (0 : Int32), x38, m35, m37)) N p0_starts p0_lengths p0_blocks) N (0 : Int32) (0 : Int32)
abbrev w_rm_X8_block : Room := { frames := 1, cells := 0, slots := 0, locals := 25 }
set_option maxHeartbeats 4000000 in
set_option maxRecDepth 100000 in
theorem c_X8_block (l : Launch) (G : va_G) (E : ClassId × ClassId × ClassId) (N : Nat) (hp0 : Nat) (p0_thrown : Int32) (p0_seed : Int32) (p0_ram : Int32) (p0_end : Int32) (p0_m : Int32) (hp0_memory : Nat) (p0_stackLong : Int32) (hp0_stack : Nat) (p0_blocks : Int32) (hp0_starts : Nat) (hp0_lengths : Nat) (p0_guardAt : Int32) (p0_guardLong : Int32) (p0_fileLong : Int32) (hp0_file : Nat) (p0_others : Int32) (hp0_otherName : Nat) (hp0_otherLong : Nat) (hp0_otherByte : Nat) (p0_wasFault : Int32) (p0_fault : Int32) (p0_faultAt : Int32) (p0_undos : Int32) (hp0_undoM : Nat) (hp0_undoMemory : Nat) (hp0_undoStackLong : Nat) (hp0_undoStack : Nat) (hp0_undoBlocks : Nat) (hp0_undoStarts : Nat) (hp0_undoLengths : Nat) (p0_made : Int32) (hp0_making : Nat) (p0_at : Int32) (p0_newM : Int32) (hp0_newMemory : Nat) (p0_newStackLong : Int32) (hp0_newStack : Nat) (p0_newBlocks : Int32) (hp0_newStarts : Nat) (hp0_newLengths : Nat) (p0_newOthers : Int32) (hp0_newName : Nat) (hp0_newLong : Nat) (hp0_newByte : Nat) (p0_came : Int32) (p0_now : Int32) (p0_nowAt : Int32) (p0_starts : (Nat → Int32)) (p0_lengths : (Nat → Int32)) (i1 : Int32) (i2 : Int32) (r : Int32) (o0 : Int32) (o1 : Int32) (o2 : (Nat → Int32)) (o3 : (Nat → Int32)) (h : f_X8_block N i1 i2 p0_end p0_m p0_blocks p0_starts p0_lengths = some (r, o0, o1, o2, o3)) : MI l G E yX8_block cX8_block 5 .int w_rm_X8_block [.ref hp0, .int i1, .int i2] [(hp0, .inr (7, [.int p0_thrown, .int p0_seed, .int p0_ram, .int p0_end, .int p0_m, .ref hp0_memory, .int p0_stackLong, .ref hp0_stack, .int p0_blocks, .ref hp0_starts, .ref hp0_lengths, .int p0_guardAt, .int p0_guardLong, .int p0_fileLong, .ref hp0_file, .int p0_others, .ref hp0_otherName, .ref hp0_otherLong, .ref hp0_otherByte, .int p0_wasFault, .int p0_fault, .int p0_faultAt, .int p0_undos, .ref hp0_undoM, .ref hp0_undoMemory, .ref hp0_undoStackLong, .ref hp0_undoStack, .ref hp0_undoBlocks, .ref hp0_undoStarts, .ref hp0_undoLengths, .int p0_made, .ref hp0_making, .int p0_at, .int p0_newM, .ref hp0_newMemory, .int p0_newStackLong, .ref hp0_newStack, .int p0_newBlocks, .ref hp0_newStarts, .ref hp0_newLengths, .int p0_newOthers, .ref hp0_newName, .ref hp0_newLong, .ref hp0_newByte, .int p0_came, .int p0_now, .int p0_nowAt])), (hp0_starts, .inl (E.1, 8, .inl p0_starts)), (hp0_lengths, .inl (E.1, 8, .inl p0_lengths))] r (fun a => [(hp0, .inr (7, [.int o0, .int p0_seed, .int p0_ram, .int p0_end, .int p0_m, .ref hp0_memory, .int p0_stackLong, .ref hp0_stack, .int o1, .ref hp0_starts, .ref hp0_lengths, .int p0_guardAt, .int p0_guardLong, .int p0_fileLong, .ref hp0_file, .int p0_others, .ref hp0_otherName, .ref hp0_otherLong, .ref hp0_otherByte, .int p0_wasFault, .int p0_fault, .int p0_faultAt, .int p0_undos, .ref hp0_undoM, .ref hp0_undoMemory, .ref hp0_undoStackLong, .ref hp0_undoStack, .ref hp0_undoBlocks, .ref hp0_undoStarts, .ref hp0_undoLengths, .int p0_made, .ref hp0_making, .int p0_at, .int p0_newM, .ref hp0_newMemory, .int p0_newStackLong, .ref hp0_newStack, .int p0_newBlocks, .ref hp0_newStarts, .ref hp0_newLengths, .int p0_newOthers, .ref hp0_newName, .ref hp0_newLong, .ref hp0_newByte, .int p0_came, .int p0_now, .int p0_nowAt])), (hp0_starts, .inl (E.1, 8, .inl o2)), (hp0_lengths, .inl (E.1, 8, .inl o3))]) 0 0 := by
  refine MI_of (by decide) (Nat.le_of_ble_eq_true rfl) ?_
  intro p e s m args below meth c A Q hx hb hml hown hts hK hA hP hD hS ret ls hl
  replace hl : lv_has ls 5 [(0, .ref hp0), (1, .int i1), (2, .int i2)] := hl
  unfold f_X8_block at h
  refine lv_aload_n hx hb dX8_block_0 rfl (lv_at hl 0 rfl) ?_
  refine lv_iconst (v := 0) hx hb dX8_block_1 (by decide) ?_
  refine putF (D := G) (ci := 7) (v := .int (0 : Int32)) (ty := .int) (C := RX8) (T := TX8) (N := 47) hx hb hts inG_X8 tyX8 tyX8_ok nmX8 hown hK.1 hP hD hS 0 rfl rfl 0 (by decide) tf_X8_0 (hts _ wd_d7e2667f) pd_I rfl rfl (Nat.le_of_ble_eq_true rfl) dX8_block_2 (fun H locs hP hD hS => ?_)
  have hP : va_P G vwCl [(hp0, .inr (7, [.int (0 : Int32), .int p0_seed, .int p0_ram, .int p0_end, .int p0_m, .ref hp0_memory, .int p0_stackLong, .ref hp0_stack, .int p0_blocks, .ref hp0_starts, .ref hp0_lengths, .int p0_guardAt, .int p0_guardLong, .int p0_fileLong, .ref hp0_file, .int p0_others, .ref hp0_otherName, .ref hp0_otherLong, .ref hp0_otherByte, .int p0_wasFault, .int p0_fault, .int p0_faultAt, .int p0_undos, .ref hp0_undoM, .ref hp0_undoMemory, .ref hp0_undoStackLong, .ref hp0_undoStack, .ref hp0_undoBlocks, .ref hp0_undoStarts, .ref hp0_undoLengths, .int p0_made, .ref hp0_making, .int p0_at, .int p0_newM, .ref hp0_newMemory, .int p0_newStackLong, .ref hp0_newStack, .int p0_newBlocks, .ref hp0_newStarts, .ref hp0_newLengths, .int p0_newOthers, .ref hp0_newName, .ref hp0_newLong, .ref hp0_newByte, .int p0_came, .int p0_now, .int p0_nowAt])), (hp0_starts, .inl (E.1, 8, .inl p0_starts)), (hp0_lengths, .inl (E.1, 8, .inl p0_lengths))] H := hP
  have hD : va_D A [(hp0, .inr (7, [.int (0 : Int32), .int p0_seed, .int p0_ram, .int p0_end, .int p0_m, .ref hp0_memory, .int p0_stackLong, .ref hp0_stack, .int p0_blocks, .ref hp0_starts, .ref hp0_lengths, .int p0_guardAt, .int p0_guardLong, .int p0_fileLong, .ref hp0_file, .int p0_others, .ref hp0_otherName, .ref hp0_otherLong, .ref hp0_otherByte, .int p0_wasFault, .int p0_fault, .int p0_faultAt, .int p0_undos, .ref hp0_undoM, .ref hp0_undoMemory, .ref hp0_undoStackLong, .ref hp0_undoStack, .ref hp0_undoBlocks, .ref hp0_undoStarts, .ref hp0_undoLengths, .int p0_made, .ref hp0_making, .int p0_at, .int p0_newM, .ref hp0_newMemory, .int p0_newStackLong, .ref hp0_newStack, .int p0_newBlocks, .ref hp0_newStarts, .ref hp0_newLengths, .int p0_newOthers, .ref hp0_newName, .ref hp0_newLong, .ref hp0_newByte, .int p0_came, .int p0_now, .int p0_nowAt])), (hp0_starts, .inl (E.1, 8, .inl p0_starts)), (hp0_lengths, .inl (E.1, 8, .inl p0_lengths))] := hD
  refine lv_iload_n hx hb dX8_block_5 rfl (lv_at hl 2 rfl) ?_
  refine lv_i2l hx hb dX8_block_6 rfl ?_
  refine lv_lconst (v := 1) hx hb dX8_block_7 (by decide) ?_
  refine lv_ldc2 hx hb hown (hts _ wd_0e1b34fd) dX8_block_8 ?_
  obtain ⟨u1, hu1, h⟩ := bd_t h
  refine cSi (wr := [(hp0, .inr (7, [.int (0 : Int32), .int p0_seed, .int p0_ram, .int p0_end, .int p0_m, .ref hp0_memory, .int p0_stackLong, .ref hp0_stack, .int p0_blocks, .ref hp0_starts, .ref hp0_lengths, .int p0_guardAt, .int p0_guardLong, .int p0_fileLong, .ref hp0_file, .int p0_others, .ref hp0_otherName, .ref hp0_otherLong, .ref hp0_otherByte, .int p0_wasFault, .int p0_fault, .int p0_faultAt, .int p0_undos, .ref hp0_undoM, .ref hp0_undoMemory, .ref hp0_undoStackLong, .ref hp0_undoStack, .ref hp0_undoBlocks, .ref hp0_undoStarts, .ref hp0_undoLengths, .int p0_made, .ref hp0_making, .int p0_at, .int p0_newM, .ref hp0_newMemory, .int p0_newStackLong, .ref hp0_newStack, .int p0_newBlocks, .ref hp0_newStarts, .ref hp0_newLengths, .int p0_newOthers, .ref hp0_newName, .ref hp0_newLong, .ref hp0_newByte, .int p0_came, .int p0_now, .int p0_nowAt])), (hp0_starts, .inl (E.1, 8, .inl p0_starts)), (hp0_lengths, .inl (E.1, 8, .inl p0_lengths))]) (As := [.long i2.toInt64, .long (1 : Int64), .long (64 : Int64)]) (rest := []) ⟨hx, hb, hml, hown, hts⟩ (c_X8_in l G E i2.toInt64 (1 : Int64) (64 : Int64) u1 hu1) ok_X8_in oks_X8_in wd_1cec0843 ⟨Nat.le_of_ble_eq_true rfl, Nat.le_of_ble_eq_true rfl⟩ hK hP hD hS hA [] [0, 1, 2] rfl rfl (by decide) (by decide) (by decide) rfl hl.1 rfl (Nat.le_of_ble_eq_true rfl) dX8_block_11 ⟨Nat.le_of_ble_eq_true rfl, Nat.le_of_ble_eq_true rfl⟩ (fun H locs a2 hP hD hS => ?_)
  have hP : va_P G vwCl [(hp0, .inr (7, [.int (0 : Int32), .int p0_seed, .int p0_ram, .int p0_end, .int p0_m, .ref hp0_memory, .int p0_stackLong, .ref hp0_stack, .int p0_blocks, .ref hp0_starts, .ref hp0_lengths, .int p0_guardAt, .int p0_guardLong, .int p0_fileLong, .ref hp0_file, .int p0_others, .ref hp0_otherName, .ref hp0_otherLong, .ref hp0_otherByte, .int p0_wasFault, .int p0_fault, .int p0_faultAt, .int p0_undos, .ref hp0_undoM, .ref hp0_undoMemory, .ref hp0_undoStackLong, .ref hp0_undoStack, .ref hp0_undoBlocks, .ref hp0_undoStarts, .ref hp0_undoLengths, .int p0_made, .ref hp0_making, .int p0_at, .int p0_newM, .ref hp0_newMemory, .int p0_newStackLong, .ref hp0_newStack, .int p0_newBlocks, .ref hp0_newStarts, .ref hp0_newLengths, .int p0_newOthers, .ref hp0_newName, .ref hp0_newLong, .ref hp0_newByte, .int p0_came, .int p0_now, .int p0_nowAt])), (hp0_starts, .inl (E.1, 8, .inl p0_starts)), (hp0_lengths, .inl (E.1, 8, .inl p0_lengths))] H := hP
  have hD : va_D A [(hp0, .inr (7, [.int (0 : Int32), .int p0_seed, .int p0_ram, .int p0_end, .int p0_m, .ref hp0_memory, .int p0_stackLong, .ref hp0_stack, .int p0_blocks, .ref hp0_starts, .ref hp0_lengths, .int p0_guardAt, .int p0_guardLong, .int p0_fileLong, .ref hp0_file, .int p0_others, .ref hp0_otherName, .ref hp0_otherLong, .ref hp0_otherByte, .int p0_wasFault, .int p0_fault, .int p0_faultAt, .int p0_undos, .ref hp0_undoM, .ref hp0_undoMemory, .ref hp0_undoStackLong, .ref hp0_undoStack, .ref hp0_undoBlocks, .ref hp0_undoStarts, .ref hp0_undoLengths, .int p0_made, .ref hp0_making, .int p0_at, .int p0_newM, .ref hp0_newMemory, .int p0_newStackLong, .ref hp0_newStack, .int p0_newBlocks, .ref hp0_newStarts, .ref hp0_newLengths, .int p0_newOthers, .ref hp0_newName, .ref hp0_newLong, .ref hp0_newByte, .int p0_came, .int p0_now, .int p0_nowAt])), (hp0_starts, .inl (E.1, 8, .inl p0_starts)), (hp0_lengths, .inl (E.1, 8, .inl p0_lengths))] := hD
  refine lv_if_ne (tgt := 20) hx hb dX8_block_14 (by decide) (fun c3 => ?_) (fun c3 => ?_)
  · replace h := if_f h c3
    refine lv_iload_n hx hb dX8_block_20 rfl (lv_at hl 1 rfl) ?_
    refine lv_i2l hx hb dX8_block_21 rfl ?_
    refine lv_aload_n hx hb dX8_block_22 rfl (lv_at hl 0 rfl) ?_
    refine getF (D := G) (ci := 7) (v := .int p0_end) (C := RX8) (T := TX8) (N := 47) hx hb hts inG_X8 hown hK.1 hP 0 rfl rfl 3 (by decide) tf_X8_3 (hts _ wd_414b25af) rfl dX8_block_23 ?_
    refine lv_i2l hx hb dX8_block_26 rfl ?_
    refine lv_aload_n hx hb dX8_block_27 rfl (lv_at hl 0 rfl) ?_
    refine getF (D := G) (ci := 7) (v := .int p0_m) (C := RX8) (T := TX8) (N := 47) hx hb hts inG_X8 hown hK.1 hP 0 rfl rfl 4 (by decide) tf_X8_4 (hts _ wd_6aa62c5a) rfl dX8_block_28 ?_
    refine lv_iload_n hx hb dX8_block_31 rfl (lv_at hl 2 rfl) ?_
    refine lv_isub hx hb dX8_block_32 ?_
    refine lv_i2l hx hb dX8_block_33 rfl ?_
    obtain ⟨u4, hu4, h⟩ := bd_t h
    refine cSi (wr := [(hp0, .inr (7, [.int (0 : Int32), .int p0_seed, .int p0_ram, .int p0_end, .int p0_m, .ref hp0_memory, .int p0_stackLong, .ref hp0_stack, .int p0_blocks, .ref hp0_starts, .ref hp0_lengths, .int p0_guardAt, .int p0_guardLong, .int p0_fileLong, .ref hp0_file, .int p0_others, .ref hp0_otherName, .ref hp0_otherLong, .ref hp0_otherByte, .int p0_wasFault, .int p0_fault, .int p0_faultAt, .int p0_undos, .ref hp0_undoM, .ref hp0_undoMemory, .ref hp0_undoStackLong, .ref hp0_undoStack, .ref hp0_undoBlocks, .ref hp0_undoStarts, .ref hp0_undoLengths, .int p0_made, .ref hp0_making, .int p0_at, .int p0_newM, .ref hp0_newMemory, .int p0_newStackLong, .ref hp0_newStack, .int p0_newBlocks, .ref hp0_newStarts, .ref hp0_newLengths, .int p0_newOthers, .ref hp0_newName, .ref hp0_newLong, .ref hp0_newByte, .int p0_came, .int p0_now, .int p0_nowAt])), (hp0_starts, .inl (E.1, 8, .inl p0_starts)), (hp0_lengths, .inl (E.1, 8, .inl p0_lengths))]) (As := [.long i1.toInt64, .long p0_end.toInt64, .long ((p0_m - i2).toInt64)]) (rest := []) ⟨hx, hb, hml, hown, hts⟩ (c_X8_in l G E i1.toInt64 p0_end.toInt64 ((p0_m - i2).toInt64) u4 hu4) ok_X8_in oks_X8_in wd_1cec0843 ⟨Nat.le_of_ble_eq_true rfl, Nat.le_of_ble_eq_true rfl⟩ hK hP hD hS hA [] [0, 1, 2] rfl rfl (by decide) (by decide) (by decide) rfl hl.1 rfl (Nat.le_of_ble_eq_true rfl) dX8_block_34 ⟨Nat.le_of_ble_eq_true rfl, Nat.le_of_ble_eq_true rfl⟩ (fun H locs a5 hP hD hS => ?_)
    have hP : va_P G vwCl [(hp0, .inr (7, [.int (0 : Int32), .int p0_seed, .int p0_ram, .int p0_end, .int p0_m, .ref hp0_memory, .int p0_stackLong, .ref hp0_stack, .int p0_blocks, .ref hp0_starts, .ref hp0_lengths, .int p0_guardAt, .int p0_guardLong, .int p0_fileLong, .ref hp0_file, .int p0_others, .ref hp0_otherName, .ref hp0_otherLong, .ref hp0_otherByte, .int p0_wasFault, .int p0_fault, .int p0_faultAt, .int p0_undos, .ref hp0_undoM, .ref hp0_undoMemory, .ref hp0_undoStackLong, .ref hp0_undoStack, .ref hp0_undoBlocks, .ref hp0_undoStarts, .ref hp0_undoLengths, .int p0_made, .ref hp0_making, .int p0_at, .int p0_newM, .ref hp0_newMemory, .int p0_newStackLong, .ref hp0_newStack, .int p0_newBlocks, .ref hp0_newStarts, .ref hp0_newLengths, .int p0_newOthers, .ref hp0_newName, .ref hp0_newLong, .ref hp0_newByte, .int p0_came, .int p0_now, .int p0_nowAt])), (hp0_starts, .inl (E.1, 8, .inl p0_starts)), (hp0_lengths, .inl (E.1, 8, .inl p0_lengths))] H := hP
    have hD : va_D A [(hp0, .inr (7, [.int (0 : Int32), .int p0_seed, .int p0_ram, .int p0_end, .int p0_m, .ref hp0_memory, .int p0_stackLong, .ref hp0_stack, .int p0_blocks, .ref hp0_starts, .ref hp0_lengths, .int p0_guardAt, .int p0_guardLong, .int p0_fileLong, .ref hp0_file, .int p0_others, .ref hp0_otherName, .ref hp0_otherLong, .ref hp0_otherByte, .int p0_wasFault, .int p0_fault, .int p0_faultAt, .int p0_undos, .ref hp0_undoM, .ref hp0_undoMemory, .ref hp0_undoStackLong, .ref hp0_undoStack, .ref hp0_undoBlocks, .ref hp0_undoStarts, .ref hp0_undoLengths, .int p0_made, .ref hp0_making, .int p0_at, .int p0_newM, .ref hp0_newMemory, .int p0_newStackLong, .ref hp0_newStack, .int p0_newBlocks, .ref hp0_newStarts, .ref hp0_newLengths, .int p0_newOthers, .ref hp0_newName, .ref hp0_newLong, .ref hp0_newByte, .int p0_came, .int p0_now, .int p0_nowAt])), (hp0_starts, .inl (E.1, 8, .inl p0_starts)), (hp0_lengths, .inl (E.1, 8, .inl p0_lengths))] := hD
    refine lv_if_ne (tgt := 43) hx hb dX8_block_37 (by decide) (fun c6 => ?_) (fun c6 => ?_)
    · replace h := if_f h c6
      refine lv_iconst (v := 0) hx hb dX8_block_43 (by decide) ?_
      refine lv_istore_n (lv' := [(3, .int (0 : Int32)), (0, .ref hp0), (1, .int i1), (2, .int i2)]) hx hb dX8_block_44 rfl hl (by decide) rfl (fun ls hl => ?_)
      refine lv_iconst (v := 0) hx hb dX8_block_45 (by decide) ?_
      refine lv_istore (lv' := [(4, .int (0 : Int32)), (3, .int (0 : Int32)), (0, .ref hp0), (1, .int i1), (2, .int i2)]) hx hb dX8_block_46 hl (by decide) rfl (fun ls hl => ?_)
      have hL48 : ∀ (K117 : Int32 → Int32 → Option (Int32 × Int32 × Int32 × (Nat → Int32) × (Nat → Int32))), (∀ (z7 : Int32) (z8 : Int32), K117 z7 z8 = some (r, o0, o1, o2, o3) → ∀ (H : Heap) (locs : List Loc) (ls : Array Slot), va_P G vwCl [(hp0, .inr (7, [.int (0 : Int32), .int p0_seed, .int p0_ram, .int p0_end, .int p0_m, .ref hp0_memory, .int p0_stackLong, .ref hp0_stack, .int p0_blocks, .ref hp0_starts, .ref hp0_lengths, .int p0_guardAt, .int p0_guardLong, .int p0_fileLong, .ref hp0_file, .int p0_others, .ref hp0_otherName, .ref hp0_otherLong, .ref hp0_otherByte, .int p0_wasFault, .int p0_fault, .int p0_faultAt, .int p0_undos, .ref hp0_undoM, .ref hp0_undoMemory, .ref hp0_undoStackLong, .ref hp0_undoStack, .ref hp0_undoBlocks, .ref hp0_undoStarts, .ref hp0_undoLengths, .int p0_made, .ref hp0_making, .int p0_at, .int p0_newM, .ref hp0_newMemory, .int p0_newStackLong, .ref hp0_newStack, .int p0_newBlocks, .ref hp0_newStarts, .ref hp0_newLengths, .int p0_newOthers, .ref hp0_newName, .ref hp0_newLong, .ref hp0_newByte, .int p0_came, .int p0_now, .int p0_nowAt])), (hp0_starts, .inl (E.1, 8, .inl p0_starts)), (hp0_lengths, .inl (E.1, 8, .inl p0_lengths))] H → va_D A [(hp0, .inr (7, [.int (0 : Int32), .int p0_seed, .int p0_ram, .int p0_end, .int p0_m, .ref hp0_memory, .int p0_stackLong, .ref hp0_stack, .int p0_blocks, .ref hp0_starts, .ref hp0_lengths, .int p0_guardAt, .int p0_guardLong, .int p0_fileLong, .ref hp0_file, .int p0_others, .ref hp0_otherName, .ref hp0_otherLong, .ref hp0_otherByte, .int p0_wasFault, .int p0_fault, .int p0_faultAt, .int p0_undos, .ref hp0_undoM, .ref hp0_undoMemory, .ref hp0_undoStackLong, .ref hp0_undoStack, .ref hp0_undoBlocks, .ref hp0_undoStarts, .ref hp0_undoLengths, .int p0_made, .ref hp0_making, .int p0_at, .int p0_newM, .ref hp0_newMemory, .int p0_newStackLong, .ref hp0_newStack, .int p0_newBlocks, .ref hp0_newStarts, .ref hp0_newLengths, .int p0_newOthers, .ref hp0_newName, .ref hp0_newLong, .ref hp0_newByte, .int p0_came, .int p0_now, .int p0_nowAt])), (hp0_starts, .inl (E.1, 8, .inl p0_starts)), (hp0_lengths, .inl (E.1, 8, .inl p0_lengths))] → va_S A s.heap H locs → lv_has ls 5 [(0, .ref hp0), (1, .int i1), (2, .int i2), (3, .int z7)] → W p l e w_rm_X8_block s m args below meth c H locs 0 0 Q (F0 m 117 ls [])) → ∀ (n : Nat) (z7 : Int32) (z8 : Int32), L_X8_block_48 i1 i2 p0_blocks p0_starts p0_lengths K117 n z7 z8 = some (r, o0, o1, o2, o3) → ∀ (H : Heap) (locs : List Loc) (ls : Array Slot), va_P G vwCl [(hp0, .inr (7, [.int (0 : Int32), .int p0_seed, .int p0_ram, .int p0_end, .int p0_m, .ref hp0_memory, .int p0_stackLong, .ref hp0_stack, .int p0_blocks, .ref hp0_starts, .ref hp0_lengths, .int p0_guardAt, .int p0_guardLong, .int p0_fileLong, .ref hp0_file, .int p0_others, .ref hp0_otherName, .ref hp0_otherLong, .ref hp0_otherByte, .int p0_wasFault, .int p0_fault, .int p0_faultAt, .int p0_undos, .ref hp0_undoM, .ref hp0_undoMemory, .ref hp0_undoStackLong, .ref hp0_undoStack, .ref hp0_undoBlocks, .ref hp0_undoStarts, .ref hp0_undoLengths, .int p0_made, .ref hp0_making, .int p0_at, .int p0_newM, .ref hp0_newMemory, .int p0_newStackLong, .ref hp0_newStack, .int p0_newBlocks, .ref hp0_newStarts, .ref hp0_newLengths, .int p0_newOthers, .ref hp0_newName, .ref hp0_newLong, .ref hp0_newByte, .int p0_came, .int p0_now, .int p0_nowAt])), (hp0_starts, .inl (E.1, 8, .inl p0_starts)), (hp0_lengths, .inl (E.1, 8, .inl p0_lengths))] H → va_D A [(hp0, .inr (7, [.int (0 : Int32), .int p0_seed, .int p0_ram, .int p0_end, .int p0_m, .ref hp0_memory, .int p0_stackLong, .ref hp0_stack, .int p0_blocks, .ref hp0_starts, .ref hp0_lengths, .int p0_guardAt, .int p0_guardLong, .int p0_fileLong, .ref hp0_file, .int p0_others, .ref hp0_otherName, .ref hp0_otherLong, .ref hp0_otherByte, .int p0_wasFault, .int p0_fault, .int p0_faultAt, .int p0_undos, .ref hp0_undoM, .ref hp0_undoMemory, .ref hp0_undoStackLong, .ref hp0_undoStack, .ref hp0_undoBlocks, .ref hp0_undoStarts, .ref hp0_undoLengths, .int p0_made, .ref hp0_making, .int p0_at, .int p0_newM, .ref hp0_newMemory, .int p0_newStackLong, .ref hp0_newStack, .int p0_newBlocks, .ref hp0_newStarts, .ref hp0_newLengths, .int p0_newOthers, .ref hp0_newName, .ref hp0_newLong, .ref hp0_newByte, .int p0_came, .int p0_now, .int p0_nowAt])), (hp0_starts, .inl (E.1, 8, .inl p0_starts)), (hp0_lengths, .inl (E.1, 8, .inl p0_lengths))] → va_S A s.heap H locs → lv_has ls 5 [(0, .ref hp0), (1, .int i1), (2, .int i2), (3, .int z7), (4, .int z8)] → W p l e w_rm_X8_block s m args below meth c H locs 0 0 Q (F0 m 48 ls []) := by
        intro K117 hK117 n
        induction n with
        | zero =>
          intro z7 z8 h
          replace h : (none : Option (Int32 × Int32 × Int32 × (Nat → Int32) × (Nat → Int32))) = some (r, o0, o1, o2, o3) := h
          cases h
        | succ n ih =>
          intro z7 z8 h H locs ls hP hD hS hl
          replace h : B_X8_block_48 i1 i2 p0_blocks p0_starts p0_lengths (fun z7 z8 => L_X8_block_48 i1 i2 p0_blocks p0_starts p0_lengths K117 n z7 z8) K117 z7 z8 = some (r, o0, o1, o2, o3) := h
          obtain ⟨rec48, hrec48⟩ : ∃ f : Int32 → Int32 → Option (Int32 × Int32 × Int32 × (Nat → Int32) × (Nat → Int32)), f = (fun z7 z8 => L_X8_block_48 i1 i2 p0_blocks p0_starts p0_lengths K117 n z7 z8) := ⟨_, rfl⟩
          rw [← hrec48] at h
          unfold B_X8_block_48 at h
          refine lv_iload hx hb dX8_block_48 (lv_at hl 4 rfl) ?_
          refine lv_aload_n hx hb dX8_block_50 rfl (lv_at hl 0 rfl) ?_
          refine getF (D := G) (ci := 7) (v := .int p0_blocks) (C := RX8) (T := TX8) (N := 47) hx hb hts inG_X8 hown hK.1 hP 0 rfl rfl 8 (by decide) tf_X8_8 (hts _ wd_f86497e1) rfl dX8_block_51 ?_
          refine lv_icmp_ge (tgt := 117) hx hb dX8_block_54 (by decide) (fun c9 => ?_) (fun c9 => ?_)
          · replace h := if_t h c9
            exact hK117 z7 z8 h _ _ _ hP hD hS (lv_sub hl [0, 1, 2, 3] rfl)
          · replace h := if_f h c9
            refine lv_iload_n hx hb dX8_block_57 rfl (lv_at hl 1 rfl) ?_
            refine lv_aload_n hx hb dX8_block_58 rfl (lv_at hl 0 rfl) ?_
            refine getF (D := G) (ci := 7) (v := .ref hp0_starts) (C := RX8) (T := TX8) (N := 47) hx hb hts inG_X8 hown hK.1 hP 0 rfl rfl 9 (by decide) tf_X8_9 (hts _ wd_a6f33519) rfl dX8_block_59 ?_
            refine lv_iload hx hb dX8_block_62 (lv_at hl 4 rfl) ?_
            obtain ⟨g10, h⟩ := gin_t h
            refine va_iald hx hb hK.1 hP 1 0 rfl rfl g10 dX8_block_64 ?_
            refine lv_aload_n hx hb dX8_block_65 rfl (lv_at hl 0 rfl) ?_
            refine getF (D := G) (ci := 7) (v := .ref hp0_lengths) (C := RX8) (T := TX8) (N := 47) hx hb hts inG_X8 hown hK.1 hP 0 rfl rfl 10 (by decide) tf_X8_10 (hts _ wd_43fba336) rfl dX8_block_66 ?_
            refine lv_iload hx hb dX8_block_69 (lv_at hl 4 rfl) ?_
            obtain ⟨g11, h⟩ := gin_t h
            refine va_iald hx hb hK.1 hP 2 0 rfl rfl g11 dX8_block_71 ?_
            refine lv_iadd hx hb dX8_block_72 ?_
            have hJ92 : ∀ (_ : Unit), J_X8_block_92 i1 p0_starts z7 z8 rec48 = some (r, o0, o1, o2, o3) → ∀ (H : Heap) (locs : List Loc) (ls : Array Slot), va_P G vwCl [(hp0, .inr (7, [.int (0 : Int32), .int p0_seed, .int p0_ram, .int p0_end, .int p0_m, .ref hp0_memory, .int p0_stackLong, .ref hp0_stack, .int p0_blocks, .ref hp0_starts, .ref hp0_lengths, .int p0_guardAt, .int p0_guardLong, .int p0_fileLong, .ref hp0_file, .int p0_others, .ref hp0_otherName, .ref hp0_otherLong, .ref hp0_otherByte, .int p0_wasFault, .int p0_fault, .int p0_faultAt, .int p0_undos, .ref hp0_undoM, .ref hp0_undoMemory, .ref hp0_undoStackLong, .ref hp0_undoStack, .ref hp0_undoBlocks, .ref hp0_undoStarts, .ref hp0_undoLengths, .int p0_made, .ref hp0_making, .int p0_at, .int p0_newM, .ref hp0_newMemory, .int p0_newStackLong, .ref hp0_newStack, .int p0_newBlocks, .ref hp0_newStarts, .ref hp0_newLengths, .int p0_newOthers, .ref hp0_newName, .ref hp0_newLong, .ref hp0_newByte, .int p0_came, .int p0_now, .int p0_nowAt])), (hp0_starts, .inl (E.1, 8, .inl p0_starts)), (hp0_lengths, .inl (E.1, 8, .inl p0_lengths))] H → va_D A [(hp0, .inr (7, [.int (0 : Int32), .int p0_seed, .int p0_ram, .int p0_end, .int p0_m, .ref hp0_memory, .int p0_stackLong, .ref hp0_stack, .int p0_blocks, .ref hp0_starts, .ref hp0_lengths, .int p0_guardAt, .int p0_guardLong, .int p0_fileLong, .ref hp0_file, .int p0_others, .ref hp0_otherName, .ref hp0_otherLong, .ref hp0_otherByte, .int p0_wasFault, .int p0_fault, .int p0_faultAt, .int p0_undos, .ref hp0_undoM, .ref hp0_undoMemory, .ref hp0_undoStackLong, .ref hp0_undoStack, .ref hp0_undoBlocks, .ref hp0_undoStarts, .ref hp0_undoLengths, .int p0_made, .ref hp0_making, .int p0_at, .int p0_newM, .ref hp0_newMemory, .int p0_newStackLong, .ref hp0_newStack, .int p0_newBlocks, .ref hp0_newStarts, .ref hp0_newLengths, .int p0_newOthers, .ref hp0_newName, .ref hp0_newLong, .ref hp0_newByte, .int p0_came, .int p0_now, .int p0_nowAt])), (hp0_starts, .inl (E.1, 8, .inl p0_starts)), (hp0_lengths, .inl (E.1, 8, .inl p0_lengths))] → va_S A s.heap H locs → lv_has ls 5 [(0, .ref hp0), (1, .int i1), (2, .int i2), (3, .int z7), (4, .int z8)] → W p l e w_rm_X8_block s m args below meth c H locs 0 0 Q (F0 m 92 ls []) := by
              intro _ h H locs ls hP hD hS hl
              unfold J_X8_block_92 at h
              refine lv_iload_n hx hb dX8_block_92 rfl (lv_at hl 3 rfl) ?_
              refine lv_aload_n hx hb dX8_block_93 rfl (lv_at hl 0 rfl) ?_
              refine getF (D := G) (ci := 7) (v := .ref hp0_starts) (C := RX8) (T := TX8) (N := 47) hx hb hts inG_X8 hown hK.1 hP 0 rfl rfl 9 (by decide) tf_X8_9 (hts _ wd_a6f33519) rfl dX8_block_94 ?_
              refine lv_iload hx hb dX8_block_97 (lv_at hl 4 rfl) ?_
              obtain ⟨g13, h⟩ := gin_t h
              refine va_iald hx hb hK.1 hP 1 0 rfl rfl g13 dX8_block_99 ?_
              refine lv_iload_n hx hb dX8_block_100 rfl (lv_at hl 1 rfl) ?_
              have hJ109 : ∀ (y15 : Int32), J_X8_block_109 z7 z8 rec48 y15 = some (r, o0, o1, o2, o3) → ∀ (H : Heap) (locs : List Loc) (ls : Array Slot), va_P G vwCl [(hp0, .inr (7, [.int (0 : Int32), .int p0_seed, .int p0_ram, .int p0_end, .int p0_m, .ref hp0_memory, .int p0_stackLong, .ref hp0_stack, .int p0_blocks, .ref hp0_starts, .ref hp0_lengths, .int p0_guardAt, .int p0_guardLong, .int p0_fileLong, .ref hp0_file, .int p0_others, .ref hp0_otherName, .ref hp0_otherLong, .ref hp0_otherByte, .int p0_wasFault, .int p0_fault, .int p0_faultAt, .int p0_undos, .ref hp0_undoM, .ref hp0_undoMemory, .ref hp0_undoStackLong, .ref hp0_undoStack, .ref hp0_undoBlocks, .ref hp0_undoStarts, .ref hp0_undoLengths, .int p0_made, .ref hp0_making, .int p0_at, .int p0_newM, .ref hp0_newMemory, .int p0_newStackLong, .ref hp0_newStack, .int p0_newBlocks, .ref hp0_newStarts, .ref hp0_newLengths, .int p0_newOthers, .ref hp0_newName, .ref hp0_newLong, .ref hp0_newByte, .int p0_came, .int p0_now, .int p0_nowAt])), (hp0_starts, .inl (E.1, 8, .inl p0_starts)), (hp0_lengths, .inl (E.1, 8, .inl p0_lengths))] H → va_D A [(hp0, .inr (7, [.int (0 : Int32), .int p0_seed, .int p0_ram, .int p0_end, .int p0_m, .ref hp0_memory, .int p0_stackLong, .ref hp0_stack, .int p0_blocks, .ref hp0_starts, .ref hp0_lengths, .int p0_guardAt, .int p0_guardLong, .int p0_fileLong, .ref hp0_file, .int p0_others, .ref hp0_otherName, .ref hp0_otherLong, .ref hp0_otherByte, .int p0_wasFault, .int p0_fault, .int p0_faultAt, .int p0_undos, .ref hp0_undoM, .ref hp0_undoMemory, .ref hp0_undoStackLong, .ref hp0_undoStack, .ref hp0_undoBlocks, .ref hp0_undoStarts, .ref hp0_undoLengths, .int p0_made, .ref hp0_making, .int p0_at, .int p0_newM, .ref hp0_newMemory, .int p0_newStackLong, .ref hp0_newStack, .int p0_newBlocks, .ref hp0_newStarts, .ref hp0_newLengths, .int p0_newOthers, .ref hp0_newName, .ref hp0_newLong, .ref hp0_newByte, .int p0_came, .int p0_now, .int p0_nowAt])), (hp0_starts, .inl (E.1, 8, .inl p0_starts)), (hp0_lengths, .inl (E.1, 8, .inl p0_lengths))] → va_S A s.heap H locs → lv_has ls 5 [(0, .ref hp0), (1, .int i1), (2, .int i2), (4, .int z8)] → W p l e w_rm_X8_block s m args below meth c H locs 0 0 Q (F0 m 109 ls [.int y15, .int z7]) := by
                intro y15 h H locs ls hP hD hS hl
                unfold J_X8_block_109 at h
                refine lv_iadd hx hb dX8_block_109 ?_
                refine lv_topi (fun x16 ex16 => ?_)
                replace h := bn_t h ex16
                refine lv_istore_n (lv' := [(3, .int x16), (0, .ref hp0), (1, .int i1), (2, .int i2), (4, .int z8)]) hx hb dX8_block_110 rfl hl (by decide) rfl (fun ls hl => ?_)
                obtain ⟨x17, ex17⟩ : ∃ y : Int32, y = z8 + 1 := ⟨_, rfl⟩
                replace h := bn_t h ex17
                refine lv_iinc (v := x17) (lv' := [(4, .int x17), (3, .int x16), (0, .ref hp0), (1, .int i1), (2, .int i2)]) hx hb dX8_block_111 hl (k := 4) rfl (by rw [ex17]; rfl) (by decide) rfl (fun ls hl => ?_)
                refine lv_goto (tgt := 48) hx hb dX8_block_114 (by decide) ?_
                exact ih x16 x17 (by rw [hrec48] at h; exact h) _ _ _ hP hD hS (lv_sub hl [2, 3, 4, 1, 0] rfl)
              refine lv_icmp_ge (tgt := 108) hx hb dX8_block_101 (by decide) (fun c14 => ?_) (fun c14 => ?_)
              · replace h := if_t h c14
                refine lv_iconst (v := 0) hx hb dX8_block_108 (by decide) ?_
                exact hJ109 (0 : Int32) h _ _ _ hP hD hS (lv_sub hl [0, 1, 2, 4] rfl)
              · replace h := if_f h c14
                refine lv_iconst (v := 1) hx hb dX8_block_104 (by decide) ?_
                refine lv_goto (tgt := 109) hx hb dX8_block_105 (by decide) ?_
                exact hJ109 (1 : Int32) h _ _ _ hP hD hS (lv_sub hl [0, 1, 2, 4] rfl)
            refine lv_icmp_ge (tgt := 92) hx hb dX8_block_73 (by decide) (fun c12 => ?_) (fun c12 => ?_)
            · replace h := if_t h c12
              exact hJ92 () h _ _ _ hP hD hS hl
            · replace h := if_f h c12
              refine lv_aload_n hx hb dX8_block_76 rfl (lv_at hl 0 rfl) ?_
              refine getF (D := G) (ci := 7) (v := .ref hp0_starts) (C := RX8) (T := TX8) (N := 47) hx hb hts inG_X8 hown hK.1 hP 0 rfl rfl 9 (by decide) tf_X8_9 (hts _ wd_a6f33519) rfl dX8_block_77 ?_
              refine lv_iload hx hb dX8_block_80 (lv_at hl 4 rfl) ?_
              obtain ⟨g18, h⟩ := gin_t h
              refine va_iald hx hb hK.1 hP 1 0 rfl rfl g18 dX8_block_82 ?_
              refine lv_iload_n hx hb dX8_block_83 rfl (lv_at hl 1 rfl) ?_
              refine lv_iload_n hx hb dX8_block_84 rfl (lv_at hl 2 rfl) ?_
              refine lv_iadd hx hb dX8_block_85 ?_
              refine lv_icmp_ge (tgt := 92) hx hb dX8_block_86 (by decide) (fun c19 => ?_) (fun c19 => ?_)
              · replace h := if_t h c19
                exact hJ92 () h _ _ _ hP hD hS hl
              · replace h := if_f h c19
                refine lv_bipush (v := (-3)) hx hb dX8_block_89 (by decide) ?_
                cases h
                exact ret _ _ _ _ _ (fun _ => 0) rfl rfl hP hD hS dX8_block_91
      refine hL48 _ (fun z7 z8 h H locs ls hP hD hS hl => ?_) N (0 : Int32) (0 : Int32) h _ _ _ hP hD hS (lv_sub hl [2, 3, 4, 1, 0] rfl)
      try dsimp only at h
      refine lv_aload_n hx hb dX8_block_117 rfl (lv_at hl 0 rfl) ?_
      refine getF (D := G) (ci := 7) (v := .int p0_blocks) (C := RX8) (T := TX8) (N := 47) hx hb hts inG_X8 hown hK.1 hP 0 rfl rfl 8 (by decide) tf_X8_8 (hts _ wd_f86497e1) rfl dX8_block_118 ?_
      refine lv_bipush (v := 8) hx hb dX8_block_121 (by decide) ?_
      refine lv_icmp_ne (tgt := 129) hx hb dX8_block_123 (by decide) (fun c20 => ?_) (fun c20 => ?_)
      · replace h := if_f h c20
        refine lv_aload_n hx hb dX8_block_129 rfl (lv_at hl 0 rfl) ?_
        refine getF (D := G) (ci := 7) (v := .int p0_blocks) (C := RX8) (T := TX8) (N := 47) hx hb hts inG_X8 hown hK.1 hP 0 rfl rfl 8 (by decide) tf_X8_8 (hts _ wd_f86497e1) rfl dX8_block_130 ?_
        refine lv_istore (lv' := [(4, .int p0_blocks), (0, .ref hp0), (1, .int i1), (2, .int i2), (3, .int z7)]) hx hb dX8_block_133 hl (by decide) rfl (fun ls hl => ?_)
        have hL135 : ∀ (K179 : (Nat → Int32) → (Nat → Int32) → Int32 → Option (Int32 × Int32 × Int32 × (Nat → Int32) × (Nat → Int32))), (∀ (z21 : (Nat → Int32)) (z22 : (Nat → Int32)) (z23 : Int32), K179 z21 z22 z23 = some (r, o0, o1, o2, o3) → ∀ (H : Heap) (locs : List Loc) (ls : Array Slot), va_P G vwCl [(hp0, .inr (7, [.int (0 : Int32), .int p0_seed, .int p0_ram, .int p0_end, .int p0_m, .ref hp0_memory, .int p0_stackLong, .ref hp0_stack, .int p0_blocks, .ref hp0_starts, .ref hp0_lengths, .int p0_guardAt, .int p0_guardLong, .int p0_fileLong, .ref hp0_file, .int p0_others, .ref hp0_otherName, .ref hp0_otherLong, .ref hp0_otherByte, .int p0_wasFault, .int p0_fault, .int p0_faultAt, .int p0_undos, .ref hp0_undoM, .ref hp0_undoMemory, .ref hp0_undoStackLong, .ref hp0_undoStack, .ref hp0_undoBlocks, .ref hp0_undoStarts, .ref hp0_undoLengths, .int p0_made, .ref hp0_making, .int p0_at, .int p0_newM, .ref hp0_newMemory, .int p0_newStackLong, .ref hp0_newStack, .int p0_newBlocks, .ref hp0_newStarts, .ref hp0_newLengths, .int p0_newOthers, .ref hp0_newName, .ref hp0_newLong, .ref hp0_newByte, .int p0_came, .int p0_now, .int p0_nowAt])), (hp0_starts, .inl (E.1, 8, .inl z21)), (hp0_lengths, .inl (E.1, 8, .inl z22))] H → va_D A [(hp0, .inr (7, [.int (0 : Int32), .int p0_seed, .int p0_ram, .int p0_end, .int p0_m, .ref hp0_memory, .int p0_stackLong, .ref hp0_stack, .int p0_blocks, .ref hp0_starts, .ref hp0_lengths, .int p0_guardAt, .int p0_guardLong, .int p0_fileLong, .ref hp0_file, .int p0_others, .ref hp0_otherName, .ref hp0_otherLong, .ref hp0_otherByte, .int p0_wasFault, .int p0_fault, .int p0_faultAt, .int p0_undos, .ref hp0_undoM, .ref hp0_undoMemory, .ref hp0_undoStackLong, .ref hp0_undoStack, .ref hp0_undoBlocks, .ref hp0_undoStarts, .ref hp0_undoLengths, .int p0_made, .ref hp0_making, .int p0_at, .int p0_newM, .ref hp0_newMemory, .int p0_newStackLong, .ref hp0_newStack, .int p0_newBlocks, .ref hp0_newStarts, .ref hp0_newLengths, .int p0_newOthers, .ref hp0_newName, .ref hp0_newLong, .ref hp0_newByte, .int p0_came, .int p0_now, .int p0_nowAt])), (hp0_starts, .inl (E.1, 8, .inl z21)), (hp0_lengths, .inl (E.1, 8, .inl z22))] → va_S A s.heap H locs → lv_has ls 5 [(0, .ref hp0), (1, .int i1), (2, .int i2), (3, .int z7)] → W p l e w_rm_X8_block s m args below meth c H locs 0 0 Q (F0 m 179 ls [])) → ∀ (n : Nat) (z21 : (Nat → Int32)) (z22 : (Nat → Int32)) (z23 : Int32), L_X8_block_135 z7 K179 n z21 z22 z23 = some (r, o0, o1, o2, o3) → ∀ (H : Heap) (locs : List Loc) (ls : Array Slot), va_P G vwCl [(hp0, .inr (7, [.int (0 : Int32), .int p0_seed, .int p0_ram, .int p0_end, .int p0_m, .ref hp0_memory, .int p0_stackLong, .ref hp0_stack, .int p0_blocks, .ref hp0_starts, .ref hp0_lengths, .int p0_guardAt, .int p0_guardLong, .int p0_fileLong, .ref hp0_file, .int p0_others, .ref hp0_otherName, .ref hp0_otherLong, .ref hp0_otherByte, .int p0_wasFault, .int p0_fault, .int p0_faultAt, .int p0_undos, .ref hp0_undoM, .ref hp0_undoMemory, .ref hp0_undoStackLong, .ref hp0_undoStack, .ref hp0_undoBlocks, .ref hp0_undoStarts, .ref hp0_undoLengths, .int p0_made, .ref hp0_making, .int p0_at, .int p0_newM, .ref hp0_newMemory, .int p0_newStackLong, .ref hp0_newStack, .int p0_newBlocks, .ref hp0_newStarts, .ref hp0_newLengths, .int p0_newOthers, .ref hp0_newName, .ref hp0_newLong, .ref hp0_newByte, .int p0_came, .int p0_now, .int p0_nowAt])), (hp0_starts, .inl (E.1, 8, .inl z21)), (hp0_lengths, .inl (E.1, 8, .inl z22))] H → va_D A [(hp0, .inr (7, [.int (0 : Int32), .int p0_seed, .int p0_ram, .int p0_end, .int p0_m, .ref hp0_memory, .int p0_stackLong, .ref hp0_stack, .int p0_blocks, .ref hp0_starts, .ref hp0_lengths, .int p0_guardAt, .int p0_guardLong, .int p0_fileLong, .ref hp0_file, .int p0_others, .ref hp0_otherName, .ref hp0_otherLong, .ref hp0_otherByte, .int p0_wasFault, .int p0_fault, .int p0_faultAt, .int p0_undos, .ref hp0_undoM, .ref hp0_undoMemory, .ref hp0_undoStackLong, .ref hp0_undoStack, .ref hp0_undoBlocks, .ref hp0_undoStarts, .ref hp0_undoLengths, .int p0_made, .ref hp0_making, .int p0_at, .int p0_newM, .ref hp0_newMemory, .int p0_newStackLong, .ref hp0_newStack, .int p0_newBlocks, .ref hp0_newStarts, .ref hp0_newLengths, .int p0_newOthers, .ref hp0_newName, .ref hp0_newLong, .ref hp0_newByte, .int p0_came, .int p0_now, .int p0_nowAt])), (hp0_starts, .inl (E.1, 8, .inl z21)), (hp0_lengths, .inl (E.1, 8, .inl z22))] → va_S A s.heap H locs → lv_has ls 5 [(0, .ref hp0), (1, .int i1), (2, .int i2), (3, .int z7), (4, .int z23)] → W p l e w_rm_X8_block s m args below meth c H locs 0 0 Q (F0 m 135 ls []) := by
          intro K179 hK179 n
          induction n with
          | zero =>
            intro z21 z22 z23 h
            replace h : (none : Option (Int32 × Int32 × Int32 × (Nat → Int32) × (Nat → Int32))) = some (r, o0, o1, o2, o3) := h
            cases h
          | succ n ih =>
            intro z21 z22 z23 h H locs ls hP hD hS hl
            replace h : B_X8_block_135 z7 (fun z21 z22 z23 => L_X8_block_135 z7 K179 n z21 z22 z23) K179 z21 z22 z23 = some (r, o0, o1, o2, o3) := h
            obtain ⟨rec135, hrec135⟩ : ∃ f : (Nat → Int32) → (Nat → Int32) → Int32 → Option (Int32 × Int32 × Int32 × (Nat → Int32) × (Nat → Int32)), f = (fun z21 z22 z23 => L_X8_block_135 z7 K179 n z21 z22 z23) := ⟨_, rfl⟩
            rw [← hrec135] at h
            unfold B_X8_block_135 at h
            refine lv_iload hx hb dX8_block_135 (lv_at hl 4 rfl) ?_
            refine lv_iload_n hx hb dX8_block_137 rfl (lv_at hl 3 rfl) ?_
            refine lv_icmp_le (tgt := 179) hx hb dX8_block_138 (by decide) (fun c24 => ?_) (fun c24 => ?_)
            · replace h := if_t h c24
              exact hK179 z21 z22 z23 h _ _ _ hP hD hS (lv_sub hl [0, 1, 2, 3] rfl)
            · replace h := if_f h c24
              refine lv_aload_n hx hb dX8_block_141 rfl (lv_at hl 0 rfl) ?_
              refine getF (D := G) (ci := 7) (v := .ref hp0_starts) (C := RX8) (T := TX8) (N := 47) hx hb hts inG_X8 hown hK.1 hP 0 rfl rfl 9 (by decide) tf_X8_9 (hts _ wd_a6f33519) rfl dX8_block_142 ?_
              refine lv_iload hx hb dX8_block_145 (lv_at hl 4 rfl) ?_
              refine lv_aload_n hx hb dX8_block_147 rfl (lv_at hl 0 rfl) ?_
              refine getF (D := G) (ci := 7) (v := .ref hp0_starts) (C := RX8) (T := TX8) (N := 47) hx hb hts inG_X8 hown hK.1 hP 0 rfl rfl 9 (by decide) tf_X8_9 (hts _ wd_a6f33519) rfl dX8_block_148 ?_
              refine lv_iload hx hb dX8_block_151 (lv_at hl 4 rfl) ?_
              refine lv_iconst (v := 1) hx hb dX8_block_153 (by decide) ?_
              refine lv_isub hx hb dX8_block_154 ?_
              obtain ⟨g25, h⟩ := gin_t h
              refine va_iald hx hb hK.1 hP 1 0 rfl rfl g25 dX8_block_155 ?_
              refine lv_topi (fun x26 ex26 => ?_)
              replace h := bn_t h ex26
              obtain ⟨g27, h⟩ := gin_t h
              refine va_iast hx hb hK.1 hP hD hS 1 0 rfl rfl g27 dX8_block_156 (fun H locs hP hD hS => ?_)
              have hP : va_P G vwCl [(hp0, .inr (7, [.int (0 : Int32), .int p0_seed, .int p0_ram, .int p0_end, .int p0_m, .ref hp0_memory, .int p0_stackLong, .ref hp0_stack, .int p0_blocks, .ref hp0_starts, .ref hp0_lengths, .int p0_guardAt, .int p0_guardLong, .int p0_fileLong, .ref hp0_file, .int p0_others, .ref hp0_otherName, .ref hp0_otherLong, .ref hp0_otherByte, .int p0_wasFault, .int p0_fault, .int p0_faultAt, .int p0_undos, .ref hp0_undoM, .ref hp0_undoMemory, .ref hp0_undoStackLong, .ref hp0_undoStack, .ref hp0_undoBlocks, .ref hp0_undoStarts, .ref hp0_undoLengths, .int p0_made, .ref hp0_making, .int p0_at, .int p0_newM, .ref hp0_newMemory, .int p0_newStackLong, .ref hp0_newStack, .int p0_newBlocks, .ref hp0_newStarts, .ref hp0_newLengths, .int p0_newOthers, .ref hp0_newName, .ref hp0_newLong, .ref hp0_newByte, .int p0_came, .int p0_now, .int p0_nowAt])), (hp0_starts, .inl (E.1, 8, .inl (upd z21 z23.toNatClampNeg x26))), (hp0_lengths, .inl (E.1, 8, .inl z22))] H := hP
              have hD : va_D A [(hp0, .inr (7, [.int (0 : Int32), .int p0_seed, .int p0_ram, .int p0_end, .int p0_m, .ref hp0_memory, .int p0_stackLong, .ref hp0_stack, .int p0_blocks, .ref hp0_starts, .ref hp0_lengths, .int p0_guardAt, .int p0_guardLong, .int p0_fileLong, .ref hp0_file, .int p0_others, .ref hp0_otherName, .ref hp0_otherLong, .ref hp0_otherByte, .int p0_wasFault, .int p0_fault, .int p0_faultAt, .int p0_undos, .ref hp0_undoM, .ref hp0_undoMemory, .ref hp0_undoStackLong, .ref hp0_undoStack, .ref hp0_undoBlocks, .ref hp0_undoStarts, .ref hp0_undoLengths, .int p0_made, .ref hp0_making, .int p0_at, .int p0_newM, .ref hp0_newMemory, .int p0_newStackLong, .ref hp0_newStack, .int p0_newBlocks, .ref hp0_newStarts, .ref hp0_newLengths, .int p0_newOthers, .ref hp0_newName, .ref hp0_newLong, .ref hp0_newByte, .int p0_came, .int p0_now, .int p0_nowAt])), (hp0_starts, .inl (E.1, 8, .inl (upd z21 z23.toNatClampNeg x26))), (hp0_lengths, .inl (E.1, 8, .inl z22))] := hD
              obtain ⟨m28, em28⟩ : ∃ y : Nat → Int32, y = upd z21 z23.toNatClampNeg x26 := ⟨_, rfl⟩
              replace h := bn_t h em28
              rw [← em28] at hP hD
              refine lv_aload_n hx hb dX8_block_157 rfl (lv_at hl 0 rfl) ?_
              refine getF (D := G) (ci := 7) (v := .ref hp0_lengths) (C := RX8) (T := TX8) (N := 47) hx hb hts inG_X8 hown hK.1 hP 0 rfl rfl 10 (by decide) tf_X8_10 (hts _ wd_43fba336) rfl dX8_block_158 ?_
              refine lv_iload hx hb dX8_block_161 (lv_at hl 4 rfl) ?_
              refine lv_aload_n hx hb dX8_block_163 rfl (lv_at hl 0 rfl) ?_
              refine getF (D := G) (ci := 7) (v := .ref hp0_lengths) (C := RX8) (T := TX8) (N := 47) hx hb hts inG_X8 hown hK.1 hP 0 rfl rfl 10 (by decide) tf_X8_10 (hts _ wd_43fba336) rfl dX8_block_164 ?_
              refine lv_iload hx hb dX8_block_167 (lv_at hl 4 rfl) ?_
              refine lv_iconst (v := 1) hx hb dX8_block_169 (by decide) ?_
              refine lv_isub hx hb dX8_block_170 ?_
              obtain ⟨g29, h⟩ := gin_t h
              refine va_iald hx hb hK.1 hP 2 0 rfl rfl g29 dX8_block_171 ?_
              refine lv_topi (fun x30 ex30 => ?_)
              replace h := bn_t h ex30
              obtain ⟨g31, h⟩ := gin_t h
              refine va_iast hx hb hK.1 hP hD hS 2 0 rfl rfl g31 dX8_block_172 (fun H locs hP hD hS => ?_)
              have hP : va_P G vwCl [(hp0, .inr (7, [.int (0 : Int32), .int p0_seed, .int p0_ram, .int p0_end, .int p0_m, .ref hp0_memory, .int p0_stackLong, .ref hp0_stack, .int p0_blocks, .ref hp0_starts, .ref hp0_lengths, .int p0_guardAt, .int p0_guardLong, .int p0_fileLong, .ref hp0_file, .int p0_others, .ref hp0_otherName, .ref hp0_otherLong, .ref hp0_otherByte, .int p0_wasFault, .int p0_fault, .int p0_faultAt, .int p0_undos, .ref hp0_undoM, .ref hp0_undoMemory, .ref hp0_undoStackLong, .ref hp0_undoStack, .ref hp0_undoBlocks, .ref hp0_undoStarts, .ref hp0_undoLengths, .int p0_made, .ref hp0_making, .int p0_at, .int p0_newM, .ref hp0_newMemory, .int p0_newStackLong, .ref hp0_newStack, .int p0_newBlocks, .ref hp0_newStarts, .ref hp0_newLengths, .int p0_newOthers, .ref hp0_newName, .ref hp0_newLong, .ref hp0_newByte, .int p0_came, .int p0_now, .int p0_nowAt])), (hp0_starts, .inl (E.1, 8, .inl m28)), (hp0_lengths, .inl (E.1, 8, .inl (upd z22 z23.toNatClampNeg x30)))] H := hP
              have hD : va_D A [(hp0, .inr (7, [.int (0 : Int32), .int p0_seed, .int p0_ram, .int p0_end, .int p0_m, .ref hp0_memory, .int p0_stackLong, .ref hp0_stack, .int p0_blocks, .ref hp0_starts, .ref hp0_lengths, .int p0_guardAt, .int p0_guardLong, .int p0_fileLong, .ref hp0_file, .int p0_others, .ref hp0_otherName, .ref hp0_otherLong, .ref hp0_otherByte, .int p0_wasFault, .int p0_fault, .int p0_faultAt, .int p0_undos, .ref hp0_undoM, .ref hp0_undoMemory, .ref hp0_undoStackLong, .ref hp0_undoStack, .ref hp0_undoBlocks, .ref hp0_undoStarts, .ref hp0_undoLengths, .int p0_made, .ref hp0_making, .int p0_at, .int p0_newM, .ref hp0_newMemory, .int p0_newStackLong, .ref hp0_newStack, .int p0_newBlocks, .ref hp0_newStarts, .ref hp0_newLengths, .int p0_newOthers, .ref hp0_newName, .ref hp0_newLong, .ref hp0_newByte, .int p0_came, .int p0_now, .int p0_nowAt])), (hp0_starts, .inl (E.1, 8, .inl m28)), (hp0_lengths, .inl (E.1, 8, .inl (upd z22 z23.toNatClampNeg x30)))] := hD
              obtain ⟨m32, em32⟩ : ∃ y : Nat → Int32, y = upd z22 z23.toNatClampNeg x30 := ⟨_, rfl⟩
              replace h := bn_t h em32
              rw [← em32] at hP hD
              obtain ⟨x33, ex33⟩ : ∃ y : Int32, y = z23 + (-1) := ⟨_, rfl⟩
              replace h := bn_t h ex33
              refine lv_iinc (v := x33) (lv' := [(4, .int x33), (0, .ref hp0), (1, .int i1), (2, .int i2), (3, .int z7)]) hx hb dX8_block_173 hl (k := 4) rfl (by rw [ex33]; rfl) (by decide) rfl (fun ls hl => ?_)
              refine lv_goto (tgt := 135) hx hb dX8_block_176 (by decide) ?_
              exact ih m28 m32 x33 (by rw [hrec135] at h; exact h) _ _ _ hP hD hS (lv_sub hl [1, 2, 3, 4, 0] rfl)
        refine hL135 _ (fun z21 z22 z23 h H locs ls hP hD hS hl => ?_) N p0_starts p0_lengths p0_blocks h _ _ _ hP hD hS (lv_sub hl [1, 2, 3, 4, 0] rfl)
        try dsimp only at h
        refine lv_aload_n hx hb dX8_block_179 rfl (lv_at hl 0 rfl) ?_
        refine getF (D := G) (ci := 7) (v := .ref hp0_starts) (C := RX8) (T := TX8) (N := 47) hx hb hts inG_X8 hown hK.1 hP 0 rfl rfl 9 (by decide) tf_X8_9 (hts _ wd_a6f33519) rfl dX8_block_180 ?_
        refine lv_iload_n hx hb dX8_block_183 rfl (lv_at hl 3 rfl) ?_
        refine lv_iload_n hx hb dX8_block_184 rfl (lv_at hl 1 rfl) ?_
        obtain ⟨g34, h⟩ := gin_t h
        refine va_iast hx hb hK.1 hP hD hS 1 0 rfl rfl g34 dX8_block_185 (fun H locs hP hD hS => ?_)
        have hP : va_P G vwCl [(hp0, .inr (7, [.int (0 : Int32), .int p0_seed, .int p0_ram, .int p0_end, .int p0_m, .ref hp0_memory, .int p0_stackLong, .ref hp0_stack, .int p0_blocks, .ref hp0_starts, .ref hp0_lengths, .int p0_guardAt, .int p0_guardLong, .int p0_fileLong, .ref hp0_file, .int p0_others, .ref hp0_otherName, .ref hp0_otherLong, .ref hp0_otherByte, .int p0_wasFault, .int p0_fault, .int p0_faultAt, .int p0_undos, .ref hp0_undoM, .ref hp0_undoMemory, .ref hp0_undoStackLong, .ref hp0_undoStack, .ref hp0_undoBlocks, .ref hp0_undoStarts, .ref hp0_undoLengths, .int p0_made, .ref hp0_making, .int p0_at, .int p0_newM, .ref hp0_newMemory, .int p0_newStackLong, .ref hp0_newStack, .int p0_newBlocks, .ref hp0_newStarts, .ref hp0_newLengths, .int p0_newOthers, .ref hp0_newName, .ref hp0_newLong, .ref hp0_newByte, .int p0_came, .int p0_now, .int p0_nowAt])), (hp0_starts, .inl (E.1, 8, .inl (upd z21 z7.toNatClampNeg i1))), (hp0_lengths, .inl (E.1, 8, .inl z22))] H := hP
        have hD : va_D A [(hp0, .inr (7, [.int (0 : Int32), .int p0_seed, .int p0_ram, .int p0_end, .int p0_m, .ref hp0_memory, .int p0_stackLong, .ref hp0_stack, .int p0_blocks, .ref hp0_starts, .ref hp0_lengths, .int p0_guardAt, .int p0_guardLong, .int p0_fileLong, .ref hp0_file, .int p0_others, .ref hp0_otherName, .ref hp0_otherLong, .ref hp0_otherByte, .int p0_wasFault, .int p0_fault, .int p0_faultAt, .int p0_undos, .ref hp0_undoM, .ref hp0_undoMemory, .ref hp0_undoStackLong, .ref hp0_undoStack, .ref hp0_undoBlocks, .ref hp0_undoStarts, .ref hp0_undoLengths, .int p0_made, .ref hp0_making, .int p0_at, .int p0_newM, .ref hp0_newMemory, .int p0_newStackLong, .ref hp0_newStack, .int p0_newBlocks, .ref hp0_newStarts, .ref hp0_newLengths, .int p0_newOthers, .ref hp0_newName, .ref hp0_newLong, .ref hp0_newByte, .int p0_came, .int p0_now, .int p0_nowAt])), (hp0_starts, .inl (E.1, 8, .inl (upd z21 z7.toNatClampNeg i1))), (hp0_lengths, .inl (E.1, 8, .inl z22))] := hD
        obtain ⟨m35, em35⟩ : ∃ y : Nat → Int32, y = upd z21 z7.toNatClampNeg i1 := ⟨_, rfl⟩
        replace h := bn_t h em35
        rw [← em35] at hP hD
        refine lv_aload_n hx hb dX8_block_186 rfl (lv_at hl 0 rfl) ?_
        refine getF (D := G) (ci := 7) (v := .ref hp0_lengths) (C := RX8) (T := TX8) (N := 47) hx hb hts inG_X8 hown hK.1 hP 0 rfl rfl 10 (by decide) tf_X8_10 (hts _ wd_43fba336) rfl dX8_block_187 ?_
        refine lv_iload_n hx hb dX8_block_190 rfl (lv_at hl 3 rfl) ?_
        refine lv_iload_n hx hb dX8_block_191 rfl (lv_at hl 2 rfl) ?_
        obtain ⟨g36, h⟩ := gin_t h
        refine va_iast hx hb hK.1 hP hD hS 2 0 rfl rfl g36 dX8_block_192 (fun H locs hP hD hS => ?_)
        have hP : va_P G vwCl [(hp0, .inr (7, [.int (0 : Int32), .int p0_seed, .int p0_ram, .int p0_end, .int p0_m, .ref hp0_memory, .int p0_stackLong, .ref hp0_stack, .int p0_blocks, .ref hp0_starts, .ref hp0_lengths, .int p0_guardAt, .int p0_guardLong, .int p0_fileLong, .ref hp0_file, .int p0_others, .ref hp0_otherName, .ref hp0_otherLong, .ref hp0_otherByte, .int p0_wasFault, .int p0_fault, .int p0_faultAt, .int p0_undos, .ref hp0_undoM, .ref hp0_undoMemory, .ref hp0_undoStackLong, .ref hp0_undoStack, .ref hp0_undoBlocks, .ref hp0_undoStarts, .ref hp0_undoLengths, .int p0_made, .ref hp0_making, .int p0_at, .int p0_newM, .ref hp0_newMemory, .int p0_newStackLong, .ref hp0_newStack, .int p0_newBlocks, .ref hp0_newStarts, .ref hp0_newLengths, .int p0_newOthers, .ref hp0_newName, .ref hp0_newLong, .ref hp0_newByte, .int p0_came, .int p0_now, .int p0_nowAt])), (hp0_starts, .inl (E.1, 8, .inl m35)), (hp0_lengths, .inl (E.1, 8, .inl (upd z22 z7.toNatClampNeg i2)))] H := hP
        have hD : va_D A [(hp0, .inr (7, [.int (0 : Int32), .int p0_seed, .int p0_ram, .int p0_end, .int p0_m, .ref hp0_memory, .int p0_stackLong, .ref hp0_stack, .int p0_blocks, .ref hp0_starts, .ref hp0_lengths, .int p0_guardAt, .int p0_guardLong, .int p0_fileLong, .ref hp0_file, .int p0_others, .ref hp0_otherName, .ref hp0_otherLong, .ref hp0_otherByte, .int p0_wasFault, .int p0_fault, .int p0_faultAt, .int p0_undos, .ref hp0_undoM, .ref hp0_undoMemory, .ref hp0_undoStackLong, .ref hp0_undoStack, .ref hp0_undoBlocks, .ref hp0_undoStarts, .ref hp0_undoLengths, .int p0_made, .ref hp0_making, .int p0_at, .int p0_newM, .ref hp0_newMemory, .int p0_newStackLong, .ref hp0_newStack, .int p0_newBlocks, .ref hp0_newStarts, .ref hp0_newLengths, .int p0_newOthers, .ref hp0_newName, .ref hp0_newLong, .ref hp0_newByte, .int p0_came, .int p0_now, .int p0_nowAt])), (hp0_starts, .inl (E.1, 8, .inl m35)), (hp0_lengths, .inl (E.1, 8, .inl (upd z22 z7.toNatClampNeg i2)))] := hD
        obtain ⟨m37, em37⟩ : ∃ y : Nat → Int32, y = upd z22 z7.toNatClampNeg i2 := ⟨_, rfl⟩
        replace h := bn_t h em37
        rw [← em37] at hP hD
        refine lv_aload_n hx hb dX8_block_193 rfl (lv_at hl 0 rfl) ?_
        refine lv_dup hx hb dX8_block_194 rfl ?_
        refine getF (D := G) (ci := 7) (v := .int p0_blocks) (C := RX8) (T := TX8) (N := 47) hx hb hts inG_X8 hown hK.1 hP 0 rfl rfl 8 (by decide) tf_X8_8 (hts _ wd_f86497e1) rfl dX8_block_195 ?_
        refine lv_iconst (v := 1) hx hb dX8_block_198 (by decide) ?_
        refine lv_iadd hx hb dX8_block_199 ?_
        refine lv_topi (fun x38 ex38 => ?_)
        replace h := bn_t h ex38
        refine putF (D := G) (ci := 7) (v := .int x38) (ty := .int) (C := RX8) (T := TX8) (N := 47) hx hb hts inG_X8 tyX8 tyX8_ok nmX8 hown hK.1 hP hD hS 0 rfl rfl 8 (by decide) tf_X8_8 (hts _ wd_f86497e1) pd_I rfl rfl (Nat.le_of_ble_eq_true rfl) dX8_block_200 (fun H locs hP hD hS => ?_)
        have hP : va_P G vwCl [(hp0, .inr (7, [.int (0 : Int32), .int p0_seed, .int p0_ram, .int p0_end, .int p0_m, .ref hp0_memory, .int p0_stackLong, .ref hp0_stack, .int x38, .ref hp0_starts, .ref hp0_lengths, .int p0_guardAt, .int p0_guardLong, .int p0_fileLong, .ref hp0_file, .int p0_others, .ref hp0_otherName, .ref hp0_otherLong, .ref hp0_otherByte, .int p0_wasFault, .int p0_fault, .int p0_faultAt, .int p0_undos, .ref hp0_undoM, .ref hp0_undoMemory, .ref hp0_undoStackLong, .ref hp0_undoStack, .ref hp0_undoBlocks, .ref hp0_undoStarts, .ref hp0_undoLengths, .int p0_made, .ref hp0_making, .int p0_at, .int p0_newM, .ref hp0_newMemory, .int p0_newStackLong, .ref hp0_newStack, .int p0_newBlocks, .ref hp0_newStarts, .ref hp0_newLengths, .int p0_newOthers, .ref hp0_newName, .ref hp0_newLong, .ref hp0_newByte, .int p0_came, .int p0_now, .int p0_nowAt])), (hp0_starts, .inl (E.1, 8, .inl m35)), (hp0_lengths, .inl (E.1, 8, .inl m37))] H := hP
        have hD : va_D A [(hp0, .inr (7, [.int (0 : Int32), .int p0_seed, .int p0_ram, .int p0_end, .int p0_m, .ref hp0_memory, .int p0_stackLong, .ref hp0_stack, .int x38, .ref hp0_starts, .ref hp0_lengths, .int p0_guardAt, .int p0_guardLong, .int p0_fileLong, .ref hp0_file, .int p0_others, .ref hp0_otherName, .ref hp0_otherLong, .ref hp0_otherByte, .int p0_wasFault, .int p0_fault, .int p0_faultAt, .int p0_undos, .ref hp0_undoM, .ref hp0_undoMemory, .ref hp0_undoStackLong, .ref hp0_undoStack, .ref hp0_undoBlocks, .ref hp0_undoStarts, .ref hp0_undoLengths, .int p0_made, .ref hp0_making, .int p0_at, .int p0_newM, .ref hp0_newMemory, .int p0_newStackLong, .ref hp0_newStack, .int p0_newBlocks, .ref hp0_newStarts, .ref hp0_newLengths, .int p0_newOthers, .ref hp0_newName, .ref hp0_newLong, .ref hp0_newByte, .int p0_came, .int p0_now, .int p0_nowAt])), (hp0_starts, .inl (E.1, 8, .inl m35)), (hp0_lengths, .inl (E.1, 8, .inl m37))] := hD
        refine lv_aload_n hx hb dX8_block_203 rfl (lv_at hl 0 rfl) ?_
        refine getF (D := G) (ci := 7) (v := .int x38) (C := RX8) (T := TX8) (N := 47) hx hb hts inG_X8 hown hK.1 hP 0 rfl rfl 8 (by decide) tf_X8_8 (hts _ wd_f86497e1) rfl dX8_block_204 ?_
        cases h
        exact ret _ _ _ _ _ (fun _ => 0) rfl rfl hP hD hS dX8_block_207
      · replace h := if_t h c20
        refine lv_bipush (v := (-4)) hx hb dX8_block_126 (by decide) ?_
        cases h
        exact ret _ _ _ _ _ (fun _ => 0) rfl rfl hP hD hS dX8_block_128
    · replace h := if_t h c6
      refine lv_bipush (v := (-3)) hx hb dX8_block_40 (by decide) ?_
      cases h
      exact ret _ _ _ _ _ (fun _ => 0) rfl rfl hP hD hS dX8_block_42
  · replace h := if_t h c3
    refine lv_bipush (v := (-2)) hx hb dX8_block_17 (by decide) ?_
    cases h
    exact ret _ _ _ _ _ (fun _ => 0) rfl rfl hP hD hS dX8_block_19
def B_X8_free_45 (x8 : Int32) (rec45 : (Nat → Int32) → (Nat → Int32) → Int32 → Option (Int32 × Int32 × Int32 × (Nat → Int32) × (Nat → Int32))) (K92 : (Nat → Int32) → (Nat → Int32) → Int32 → Option (Int32 × Int32 × Int32 × (Nat → Int32) × (Nat → Int32))) (z9 : (Nat → Int32)) (z10 : (Nat → Int32)) (z11 : Int32) : Option (Int32 × Int32 × Int32 × (Nat → Int32) × (Nat → Int32)) :=
  if x8 ≤ z11 then (
  K92 z9 z10 z11)
  else
  gin (z11 + (1 : Int32)) 8 <|
  bn (z9 (z11 + (1 : Int32)).toNatClampNeg) fun x14 =>
  gin z11 8 <|
  bn (upd z9 z11.toNatClampNeg x14) fun m16 =>
  gin (z11 + (1 : Int32)) 8 <|
  bn (z10 (z11 + (1 : Int32)).toNatClampNeg) fun x18 =>
  gin z11 8 <|
  bn (upd z10 z11.toNatClampNeg x18) fun m20 =>
  bn (z11 + 1) fun x21 =>
  rec45 m16 m20 x21
def L_X8_free_45 (x8 : Int32) (K92 : (Nat → Int32) → (Nat → Int32) → Int32 → Option (Int32 × Int32 × Int32 × (Nat → Int32) × (Nat → Int32))) : Nat → (Nat → Int32) → (Nat → Int32) → Int32 → Option (Int32 × Int32 × Int32 × (Nat → Int32) × (Nat → Int32))
    | 0, _, _, _ => none
    | n + 1, z9, z10, z11 => B_X8_free_45 x8 (fun z9 z10 z11 => L_X8_free_45 x8 K92 n z9 z10 z11) K92 z9 z10 z11
def B_X8_free_7 (N : Nat) (i1 : Int32) (p0_blocks : Int32) (p0_starts : (Nat → Int32)) (p0_lengths : (Nat → Int32)) (rec7 : Int32 → Option (Int32 × Int32 × Int32 × (Nat → Int32) × (Nat → Int32))) (K100 : Int32 → Option (Int32 × Int32 × Int32 × (Nat → Int32) × (Nat → Int32))) (z1 : Int32) : Option (Int32 × Int32 × Int32 × (Nat → Int32) × (Nat → Int32)) :=
  if p0_blocks ≤ z1 then (
  K100 z1)
  else
  gin z1 8 <|
  if (p0_starts z1.toNatClampNeg) = i1 then (
  gin z1 8 <|
  bn (p0_lengths z1.toNatClampNeg) fun x7 =>
  bn (p0_blocks - (1 : Int32)) fun x8 =>
  L_X8_free_45 x8 
  (fun z9 z10 z11 =>
  some (x7, (0 : Int32), x8, z9, z10)) N p0_starts p0_lengths z1)
  else
  bn (z1 + 1) fun x5 =>
  rec7 x5
def L_X8_free_7 (N : Nat) (i1 : Int32) (p0_blocks : Int32) (p0_starts : (Nat → Int32)) (p0_lengths : (Nat → Int32)) (K100 : Int32 → Option (Int32 × Int32 × Int32 × (Nat → Int32) × (Nat → Int32))) : Nat → Int32 → Option (Int32 × Int32 × Int32 × (Nat → Int32) × (Nat → Int32))
    | 0, _ => none
    | n + 1, z1 => B_X8_free_7 N i1 p0_blocks p0_starts p0_lengths (fun z1 => L_X8_free_7 N i1 p0_blocks p0_starts p0_lengths K100 n z1) K100 z1
def f_X8_free (N : Nat) (i1 : Int32) (p0_blocks : Int32) (p0_starts : (Nat → Int32)) (p0_lengths : (Nat → Int32)) : Option (Int32 × Int32 × Int32 × (Nat → Int32) × (Nat → Int32)) :=
  L_X8_free_7 N i1 p0_blocks p0_starts p0_lengths 
  (fun z1 =>
  some ((-1 : Int32), (0 : Int32), p0_blocks, p0_starts, p0_lengths)) N (0 : Int32)
abbrev w_rm_X8_free : Room := { frames := 0, cells := 0, slots := 0, locals := 0 }
set_option maxHeartbeats 4000000 in
set_option maxRecDepth 100000 in
theorem c_X8_free (l : Launch) (G : va_G) (E : ClassId × ClassId × ClassId) (N : Nat) (hp0 : Nat) (p0_thrown : Int32) (p0_seed : Int32) (p0_ram : Int32) (p0_end : Int32) (p0_m : Int32) (hp0_memory : Nat) (p0_stackLong : Int32) (hp0_stack : Nat) (p0_blocks : Int32) (hp0_starts : Nat) (hp0_lengths : Nat) (p0_guardAt : Int32) (p0_guardLong : Int32) (p0_fileLong : Int32) (hp0_file : Nat) (p0_others : Int32) (hp0_otherName : Nat) (hp0_otherLong : Nat) (hp0_otherByte : Nat) (p0_wasFault : Int32) (p0_fault : Int32) (p0_faultAt : Int32) (p0_undos : Int32) (hp0_undoM : Nat) (hp0_undoMemory : Nat) (hp0_undoStackLong : Nat) (hp0_undoStack : Nat) (hp0_undoBlocks : Nat) (hp0_undoStarts : Nat) (hp0_undoLengths : Nat) (p0_made : Int32) (hp0_making : Nat) (p0_at : Int32) (p0_newM : Int32) (hp0_newMemory : Nat) (p0_newStackLong : Int32) (hp0_newStack : Nat) (p0_newBlocks : Int32) (hp0_newStarts : Nat) (hp0_newLengths : Nat) (p0_newOthers : Int32) (hp0_newName : Nat) (hp0_newLong : Nat) (hp0_newByte : Nat) (p0_came : Int32) (p0_now : Int32) (p0_nowAt : Int32) (p0_starts : (Nat → Int32)) (p0_lengths : (Nat → Int32)) (i1 : Int32) (r : Int32) (o0 : Int32) (o1 : Int32) (o2 : (Nat → Int32)) (o3 : (Nat → Int32)) (h : f_X8_free N i1 p0_blocks p0_starts p0_lengths = some (r, o0, o1, o2, o3)) : MI l G E yX8_free cX8_free 5 .int w_rm_X8_free [.ref hp0, .int i1] [(hp0, .inr (7, [.int p0_thrown, .int p0_seed, .int p0_ram, .int p0_end, .int p0_m, .ref hp0_memory, .int p0_stackLong, .ref hp0_stack, .int p0_blocks, .ref hp0_starts, .ref hp0_lengths, .int p0_guardAt, .int p0_guardLong, .int p0_fileLong, .ref hp0_file, .int p0_others, .ref hp0_otherName, .ref hp0_otherLong, .ref hp0_otherByte, .int p0_wasFault, .int p0_fault, .int p0_faultAt, .int p0_undos, .ref hp0_undoM, .ref hp0_undoMemory, .ref hp0_undoStackLong, .ref hp0_undoStack, .ref hp0_undoBlocks, .ref hp0_undoStarts, .ref hp0_undoLengths, .int p0_made, .ref hp0_making, .int p0_at, .int p0_newM, .ref hp0_newMemory, .int p0_newStackLong, .ref hp0_newStack, .int p0_newBlocks, .ref hp0_newStarts, .ref hp0_newLengths, .int p0_newOthers, .ref hp0_newName, .ref hp0_newLong, .ref hp0_newByte, .int p0_came, .int p0_now, .int p0_nowAt])), (hp0_starts, .inl (E.1, 8, .inl p0_starts)), (hp0_lengths, .inl (E.1, 8, .inl p0_lengths))] r (fun a => [(hp0, .inr (7, [.int o0, .int p0_seed, .int p0_ram, .int p0_end, .int p0_m, .ref hp0_memory, .int p0_stackLong, .ref hp0_stack, .int o1, .ref hp0_starts, .ref hp0_lengths, .int p0_guardAt, .int p0_guardLong, .int p0_fileLong, .ref hp0_file, .int p0_others, .ref hp0_otherName, .ref hp0_otherLong, .ref hp0_otherByte, .int p0_wasFault, .int p0_fault, .int p0_faultAt, .int p0_undos, .ref hp0_undoM, .ref hp0_undoMemory, .ref hp0_undoStackLong, .ref hp0_undoStack, .ref hp0_undoBlocks, .ref hp0_undoStarts, .ref hp0_undoLengths, .int p0_made, .ref hp0_making, .int p0_at, .int p0_newM, .ref hp0_newMemory, .int p0_newStackLong, .ref hp0_newStack, .int p0_newBlocks, .ref hp0_newStarts, .ref hp0_newLengths, .int p0_newOthers, .ref hp0_newName, .ref hp0_newLong, .ref hp0_newByte, .int p0_came, .int p0_now, .int p0_nowAt])), (hp0_starts, .inl (E.1, 8, .inl o2)), (hp0_lengths, .inl (E.1, 8, .inl o3))]) 0 0 := by
  refine MI_of (by decide) (Nat.le_of_ble_eq_true rfl) ?_
  intro p e s m args below meth c A Q hx hb hml hown hts hK hA hP hD hS ret ls hl
  replace hl : lv_has ls 5 [(0, .ref hp0), (1, .int i1)] := hl
  unfold f_X8_free at h
  refine lv_aload_n hx hb dX8_free_0 rfl (lv_at hl 0 rfl) ?_
  refine lv_iconst (v := 0) hx hb dX8_free_1 (by decide) ?_
  refine putF (D := G) (ci := 7) (v := .int (0 : Int32)) (ty := .int) (C := RX8) (T := TX8) (N := 47) hx hb hts inG_X8 tyX8 tyX8_ok nmX8 hown hK.1 hP hD hS 0 rfl rfl 0 (by decide) tf_X8_0 (hts _ wd_d7e2667f) pd_I rfl rfl (Nat.le_of_ble_eq_true rfl) dX8_free_2 (fun H locs hP hD hS => ?_)
  have hP : va_P G vwCl [(hp0, .inr (7, [.int (0 : Int32), .int p0_seed, .int p0_ram, .int p0_end, .int p0_m, .ref hp0_memory, .int p0_stackLong, .ref hp0_stack, .int p0_blocks, .ref hp0_starts, .ref hp0_lengths, .int p0_guardAt, .int p0_guardLong, .int p0_fileLong, .ref hp0_file, .int p0_others, .ref hp0_otherName, .ref hp0_otherLong, .ref hp0_otherByte, .int p0_wasFault, .int p0_fault, .int p0_faultAt, .int p0_undos, .ref hp0_undoM, .ref hp0_undoMemory, .ref hp0_undoStackLong, .ref hp0_undoStack, .ref hp0_undoBlocks, .ref hp0_undoStarts, .ref hp0_undoLengths, .int p0_made, .ref hp0_making, .int p0_at, .int p0_newM, .ref hp0_newMemory, .int p0_newStackLong, .ref hp0_newStack, .int p0_newBlocks, .ref hp0_newStarts, .ref hp0_newLengths, .int p0_newOthers, .ref hp0_newName, .ref hp0_newLong, .ref hp0_newByte, .int p0_came, .int p0_now, .int p0_nowAt])), (hp0_starts, .inl (E.1, 8, .inl p0_starts)), (hp0_lengths, .inl (E.1, 8, .inl p0_lengths))] H := hP
  have hD : va_D A [(hp0, .inr (7, [.int (0 : Int32), .int p0_seed, .int p0_ram, .int p0_end, .int p0_m, .ref hp0_memory, .int p0_stackLong, .ref hp0_stack, .int p0_blocks, .ref hp0_starts, .ref hp0_lengths, .int p0_guardAt, .int p0_guardLong, .int p0_fileLong, .ref hp0_file, .int p0_others, .ref hp0_otherName, .ref hp0_otherLong, .ref hp0_otherByte, .int p0_wasFault, .int p0_fault, .int p0_faultAt, .int p0_undos, .ref hp0_undoM, .ref hp0_undoMemory, .ref hp0_undoStackLong, .ref hp0_undoStack, .ref hp0_undoBlocks, .ref hp0_undoStarts, .ref hp0_undoLengths, .int p0_made, .ref hp0_making, .int p0_at, .int p0_newM, .ref hp0_newMemory, .int p0_newStackLong, .ref hp0_newStack, .int p0_newBlocks, .ref hp0_newStarts, .ref hp0_newLengths, .int p0_newOthers, .ref hp0_newName, .ref hp0_newLong, .ref hp0_newByte, .int p0_came, .int p0_now, .int p0_nowAt])), (hp0_starts, .inl (E.1, 8, .inl p0_starts)), (hp0_lengths, .inl (E.1, 8, .inl p0_lengths))] := hD
  refine lv_iconst (v := 0) hx hb dX8_free_5 (by decide) ?_
  refine lv_istore_n (lv' := [(2, .int (0 : Int32)), (0, .ref hp0), (1, .int i1)]) hx hb dX8_free_6 rfl hl (by decide) rfl (fun ls hl => ?_)
  have hL7 : ∀ (K100 : Int32 → Option (Int32 × Int32 × Int32 × (Nat → Int32) × (Nat → Int32))), (∀ (z1 : Int32), K100 z1 = some (r, o0, o1, o2, o3) → ∀ (H : Heap) (locs : List Loc) (ls : Array Slot), va_P G vwCl [(hp0, .inr (7, [.int (0 : Int32), .int p0_seed, .int p0_ram, .int p0_end, .int p0_m, .ref hp0_memory, .int p0_stackLong, .ref hp0_stack, .int p0_blocks, .ref hp0_starts, .ref hp0_lengths, .int p0_guardAt, .int p0_guardLong, .int p0_fileLong, .ref hp0_file, .int p0_others, .ref hp0_otherName, .ref hp0_otherLong, .ref hp0_otherByte, .int p0_wasFault, .int p0_fault, .int p0_faultAt, .int p0_undos, .ref hp0_undoM, .ref hp0_undoMemory, .ref hp0_undoStackLong, .ref hp0_undoStack, .ref hp0_undoBlocks, .ref hp0_undoStarts, .ref hp0_undoLengths, .int p0_made, .ref hp0_making, .int p0_at, .int p0_newM, .ref hp0_newMemory, .int p0_newStackLong, .ref hp0_newStack, .int p0_newBlocks, .ref hp0_newStarts, .ref hp0_newLengths, .int p0_newOthers, .ref hp0_newName, .ref hp0_newLong, .ref hp0_newByte, .int p0_came, .int p0_now, .int p0_nowAt])), (hp0_starts, .inl (E.1, 8, .inl p0_starts)), (hp0_lengths, .inl (E.1, 8, .inl p0_lengths))] H → va_D A [(hp0, .inr (7, [.int (0 : Int32), .int p0_seed, .int p0_ram, .int p0_end, .int p0_m, .ref hp0_memory, .int p0_stackLong, .ref hp0_stack, .int p0_blocks, .ref hp0_starts, .ref hp0_lengths, .int p0_guardAt, .int p0_guardLong, .int p0_fileLong, .ref hp0_file, .int p0_others, .ref hp0_otherName, .ref hp0_otherLong, .ref hp0_otherByte, .int p0_wasFault, .int p0_fault, .int p0_faultAt, .int p0_undos, .ref hp0_undoM, .ref hp0_undoMemory, .ref hp0_undoStackLong, .ref hp0_undoStack, .ref hp0_undoBlocks, .ref hp0_undoStarts, .ref hp0_undoLengths, .int p0_made, .ref hp0_making, .int p0_at, .int p0_newM, .ref hp0_newMemory, .int p0_newStackLong, .ref hp0_newStack, .int p0_newBlocks, .ref hp0_newStarts, .ref hp0_newLengths, .int p0_newOthers, .ref hp0_newName, .ref hp0_newLong, .ref hp0_newByte, .int p0_came, .int p0_now, .int p0_nowAt])), (hp0_starts, .inl (E.1, 8, .inl p0_starts)), (hp0_lengths, .inl (E.1, 8, .inl p0_lengths))] → va_S A s.heap H locs → lv_has ls 5 [] → W p l e w_rm_X8_free s m args below meth c H locs 0 0 Q (F0 m 100 ls [])) → ∀ (n : Nat) (z1 : Int32), L_X8_free_7 N i1 p0_blocks p0_starts p0_lengths K100 n z1 = some (r, o0, o1, o2, o3) → ∀ (H : Heap) (locs : List Loc) (ls : Array Slot), va_P G vwCl [(hp0, .inr (7, [.int (0 : Int32), .int p0_seed, .int p0_ram, .int p0_end, .int p0_m, .ref hp0_memory, .int p0_stackLong, .ref hp0_stack, .int p0_blocks, .ref hp0_starts, .ref hp0_lengths, .int p0_guardAt, .int p0_guardLong, .int p0_fileLong, .ref hp0_file, .int p0_others, .ref hp0_otherName, .ref hp0_otherLong, .ref hp0_otherByte, .int p0_wasFault, .int p0_fault, .int p0_faultAt, .int p0_undos, .ref hp0_undoM, .ref hp0_undoMemory, .ref hp0_undoStackLong, .ref hp0_undoStack, .ref hp0_undoBlocks, .ref hp0_undoStarts, .ref hp0_undoLengths, .int p0_made, .ref hp0_making, .int p0_at, .int p0_newM, .ref hp0_newMemory, .int p0_newStackLong, .ref hp0_newStack, .int p0_newBlocks, .ref hp0_newStarts, .ref hp0_newLengths, .int p0_newOthers, .ref hp0_newName, .ref hp0_newLong, .ref hp0_newByte, .int p0_came, .int p0_now, .int p0_nowAt])), (hp0_starts, .inl (E.1, 8, .inl p0_starts)), (hp0_lengths, .inl (E.1, 8, .inl p0_lengths))] H → va_D A [(hp0, .inr (7, [.int (0 : Int32), .int p0_seed, .int p0_ram, .int p0_end, .int p0_m, .ref hp0_memory, .int p0_stackLong, .ref hp0_stack, .int p0_blocks, .ref hp0_starts, .ref hp0_lengths, .int p0_guardAt, .int p0_guardLong, .int p0_fileLong, .ref hp0_file, .int p0_others, .ref hp0_otherName, .ref hp0_otherLong, .ref hp0_otherByte, .int p0_wasFault, .int p0_fault, .int p0_faultAt, .int p0_undos, .ref hp0_undoM, .ref hp0_undoMemory, .ref hp0_undoStackLong, .ref hp0_undoStack, .ref hp0_undoBlocks, .ref hp0_undoStarts, .ref hp0_undoLengths, .int p0_made, .ref hp0_making, .int p0_at, .int p0_newM, .ref hp0_newMemory, .int p0_newStackLong, .ref hp0_newStack, .int p0_newBlocks, .ref hp0_newStarts, .ref hp0_newLengths, .int p0_newOthers, .ref hp0_newName, .ref hp0_newLong, .ref hp0_newByte, .int p0_came, .int p0_now, .int p0_nowAt])), (hp0_starts, .inl (E.1, 8, .inl p0_starts)), (hp0_lengths, .inl (E.1, 8, .inl p0_lengths))] → va_S A s.heap H locs → lv_has ls 5 [(0, .ref hp0), (1, .int i1), (2, .int z1)] → W p l e w_rm_X8_free s m args below meth c H locs 0 0 Q (F0 m 7 ls []) := by
    intro K100 hK100 n
    induction n with
    | zero =>
      intro z1 h
      replace h : (none : Option (Int32 × Int32 × Int32 × (Nat → Int32) × (Nat → Int32))) = some (r, o0, o1, o2, o3) := h
      cases h
    | succ n ih =>
      intro z1 h H locs ls hP hD hS hl
      replace h : B_X8_free_7 N i1 p0_blocks p0_starts p0_lengths (fun z1 => L_X8_free_7 N i1 p0_blocks p0_starts p0_lengths K100 n z1) K100 z1 = some (r, o0, o1, o2, o3) := h
      obtain ⟨rec7, hrec7⟩ : ∃ f : Int32 → Option (Int32 × Int32 × Int32 × (Nat → Int32) × (Nat → Int32)), f = (fun z1 => L_X8_free_7 N i1 p0_blocks p0_starts p0_lengths K100 n z1) := ⟨_, rfl⟩
      rw [← hrec7] at h
      unfold B_X8_free_7 at h
      refine lv_iload_n hx hb dX8_free_7 rfl (lv_at hl 2 rfl) ?_
      refine lv_aload_n hx hb dX8_free_8 rfl (lv_at hl 0 rfl) ?_
      refine getF (D := G) (ci := 7) (v := .int p0_blocks) (C := RX8) (T := TX8) (N := 47) hx hb hts inG_X8 hown hK.1 hP 0 rfl rfl 8 (by decide) tf_X8_8 (hts _ wd_f86497e1) rfl dX8_free_9 ?_
      refine lv_icmp_ge (tgt := 100) hx hb dX8_free_12 (by decide) (fun c2 => ?_) (fun c2 => ?_)
      · replace h := if_t h c2
        exact hK100 z1 h _ _ _ hP hD hS (lv_sub hl [] rfl)
      · replace h := if_f h c2
        refine lv_aload_n hx hb dX8_free_15 rfl (lv_at hl 0 rfl) ?_
        refine getF (D := G) (ci := 7) (v := .ref hp0_starts) (C := RX8) (T := TX8) (N := 47) hx hb hts inG_X8 hown hK.1 hP 0 rfl rfl 9 (by decide) tf_X8_9 (hts _ wd_a6f33519) rfl dX8_free_16 ?_
        refine lv_iload_n hx hb dX8_free_19 rfl (lv_at hl 2 rfl) ?_
        obtain ⟨g3, h⟩ := gin_t h
        refine va_iald hx hb hK.1 hP 1 0 rfl rfl g3 dX8_free_20 ?_
        refine lv_iload_n hx hb dX8_free_21 rfl (lv_at hl 1 rfl) ?_
        refine lv_icmp_ne (tgt := 94) hx hb dX8_free_22 (by decide) (fun c4 => ?_) (fun c4 => ?_)
        · replace h := if_f h c4
          obtain ⟨x5, ex5⟩ : ∃ y : Int32, y = z1 + 1 := ⟨_, rfl⟩
          replace h := bn_t h ex5
          refine lv_iinc (v := x5) (lv' := [(2, .int x5), (0, .ref hp0), (1, .int i1)]) hx hb dX8_free_94 hl (k := 2) rfl (by rw [ex5]; rfl) (by decide) rfl (fun ls hl => ?_)
          refine lv_goto (tgt := 7) hx hb dX8_free_97 (by decide) ?_
          exact ih x5 (by rw [hrec7] at h; exact h) _ _ _ hP hD hS (lv_sub hl [1, 2, 0] rfl)
        · replace h := if_t h c4
          refine lv_aload_n hx hb dX8_free_25 rfl (lv_at hl 0 rfl) ?_
          refine getF (D := G) (ci := 7) (v := .ref hp0_lengths) (C := RX8) (T := TX8) (N := 47) hx hb hts inG_X8 hown hK.1 hP 0 rfl rfl 10 (by decide) tf_X8_10 (hts _ wd_43fba336) rfl dX8_free_26 ?_
          refine lv_iload_n hx hb dX8_free_29 rfl (lv_at hl 2 rfl) ?_
          obtain ⟨g6, h⟩ := gin_t h
          refine va_iald hx hb hK.1 hP 2 0 rfl rfl g6 dX8_free_30 ?_
          refine lv_topi (fun x7 ex7 => ?_)
          replace h := bn_t h ex7
          refine lv_istore_n (lv' := [(3, .int x7), (0, .ref hp0), (1, .int i1), (2, .int z1)]) hx hb dX8_free_31 rfl hl (by decide) rfl (fun ls hl => ?_)
          refine lv_aload_n hx hb dX8_free_32 rfl (lv_at hl 1 rfl) ?_
          refine lv_dup hx hb dX8_free_33 rfl ?_
          refine getF (D := G) (ci := 7) (v := .int p0_blocks) (C := RX8) (T := TX8) (N := 47) hx hb hts inG_X8 hown hK.1 hP 0 rfl rfl 8 (by decide) tf_X8_8 (hts _ wd_f86497e1) rfl dX8_free_34 ?_
          refine lv_iconst (v := 1) hx hb dX8_free_37 (by decide) ?_
          refine lv_isub hx hb dX8_free_38 ?_
          refine lv_topi (fun x8 ex8 => ?_)
          replace h := bn_t h ex8
          refine putF (D := G) (ci := 7) (v := .int x8) (ty := .int) (C := RX8) (T := TX8) (N := 47) hx hb hts inG_X8 tyX8 tyX8_ok nmX8 hown hK.1 hP hD hS 0 rfl rfl 8 (by decide) tf_X8_8 (hts _ wd_f86497e1) pd_I rfl rfl (Nat.le_of_ble_eq_true rfl) dX8_free_39 (fun H locs hP hD hS => ?_)
          have hP : va_P G vwCl [(hp0, .inr (7, [.int (0 : Int32), .int p0_seed, .int p0_ram, .int p0_end, .int p0_m, .ref hp0_memory, .int p0_stackLong, .ref hp0_stack, .int x8, .ref hp0_starts, .ref hp0_lengths, .int p0_guardAt, .int p0_guardLong, .int p0_fileLong, .ref hp0_file, .int p0_others, .ref hp0_otherName, .ref hp0_otherLong, .ref hp0_otherByte, .int p0_wasFault, .int p0_fault, .int p0_faultAt, .int p0_undos, .ref hp0_undoM, .ref hp0_undoMemory, .ref hp0_undoStackLong, .ref hp0_undoStack, .ref hp0_undoBlocks, .ref hp0_undoStarts, .ref hp0_undoLengths, .int p0_made, .ref hp0_making, .int p0_at, .int p0_newM, .ref hp0_newMemory, .int p0_newStackLong, .ref hp0_newStack, .int p0_newBlocks, .ref hp0_newStarts, .ref hp0_newLengths, .int p0_newOthers, .ref hp0_newName, .ref hp0_newLong, .ref hp0_newByte, .int p0_came, .int p0_now, .int p0_nowAt])), (hp0_starts, .inl (E.1, 8, .inl p0_starts)), (hp0_lengths, .inl (E.1, 8, .inl p0_lengths))] H := hP
          have hD : va_D A [(hp0, .inr (7, [.int (0 : Int32), .int p0_seed, .int p0_ram, .int p0_end, .int p0_m, .ref hp0_memory, .int p0_stackLong, .ref hp0_stack, .int x8, .ref hp0_starts, .ref hp0_lengths, .int p0_guardAt, .int p0_guardLong, .int p0_fileLong, .ref hp0_file, .int p0_others, .ref hp0_otherName, .ref hp0_otherLong, .ref hp0_otherByte, .int p0_wasFault, .int p0_fault, .int p0_faultAt, .int p0_undos, .ref hp0_undoM, .ref hp0_undoMemory, .ref hp0_undoStackLong, .ref hp0_undoStack, .ref hp0_undoBlocks, .ref hp0_undoStarts, .ref hp0_undoLengths, .int p0_made, .ref hp0_making, .int p0_at, .int p0_newM, .ref hp0_newMemory, .int p0_newStackLong, .ref hp0_newStack, .int p0_newBlocks, .ref hp0_newStarts, .ref hp0_newLengths, .int p0_newOthers, .ref hp0_newName, .ref hp0_newLong, .ref hp0_newByte, .int p0_came, .int p0_now, .int p0_nowAt])), (hp0_starts, .inl (E.1, 8, .inl p0_starts)), (hp0_lengths, .inl (E.1, 8, .inl p0_lengths))] := hD
          refine lv_iload_n hx hb dX8_free_42 rfl (lv_at hl 3 rfl) ?_
          refine lv_istore (lv' := [(4, .int z1), (3, .int x7), (0, .ref hp0), (1, .int i1), (2, .int z1)]) hx hb dX8_free_43 hl (by decide) rfl (fun ls hl => ?_)
          have hL45 : ∀ (K92 : (Nat → Int32) → (Nat → Int32) → Int32 → Option (Int32 × Int32 × Int32 × (Nat → Int32) × (Nat → Int32))), (∀ (z9 : (Nat → Int32)) (z10 : (Nat → Int32)) (z11 : Int32), K92 z9 z10 z11 = some (r, o0, o1, o2, o3) → ∀ (H : Heap) (locs : List Loc) (ls : Array Slot), va_P G vwCl [(hp0, .inr (7, [.int (0 : Int32), .int p0_seed, .int p0_ram, .int p0_end, .int p0_m, .ref hp0_memory, .int p0_stackLong, .ref hp0_stack, .int x8, .ref hp0_starts, .ref hp0_lengths, .int p0_guardAt, .int p0_guardLong, .int p0_fileLong, .ref hp0_file, .int p0_others, .ref hp0_otherName, .ref hp0_otherLong, .ref hp0_otherByte, .int p0_wasFault, .int p0_fault, .int p0_faultAt, .int p0_undos, .ref hp0_undoM, .ref hp0_undoMemory, .ref hp0_undoStackLong, .ref hp0_undoStack, .ref hp0_undoBlocks, .ref hp0_undoStarts, .ref hp0_undoLengths, .int p0_made, .ref hp0_making, .int p0_at, .int p0_newM, .ref hp0_newMemory, .int p0_newStackLong, .ref hp0_newStack, .int p0_newBlocks, .ref hp0_newStarts, .ref hp0_newLengths, .int p0_newOthers, .ref hp0_newName, .ref hp0_newLong, .ref hp0_newByte, .int p0_came, .int p0_now, .int p0_nowAt])), (hp0_starts, .inl (E.1, 8, .inl z9)), (hp0_lengths, .inl (E.1, 8, .inl z10))] H → va_D A [(hp0, .inr (7, [.int (0 : Int32), .int p0_seed, .int p0_ram, .int p0_end, .int p0_m, .ref hp0_memory, .int p0_stackLong, .ref hp0_stack, .int x8, .ref hp0_starts, .ref hp0_lengths, .int p0_guardAt, .int p0_guardLong, .int p0_fileLong, .ref hp0_file, .int p0_others, .ref hp0_otherName, .ref hp0_otherLong, .ref hp0_otherByte, .int p0_wasFault, .int p0_fault, .int p0_faultAt, .int p0_undos, .ref hp0_undoM, .ref hp0_undoMemory, .ref hp0_undoStackLong, .ref hp0_undoStack, .ref hp0_undoBlocks, .ref hp0_undoStarts, .ref hp0_undoLengths, .int p0_made, .ref hp0_making, .int p0_at, .int p0_newM, .ref hp0_newMemory, .int p0_newStackLong, .ref hp0_newStack, .int p0_newBlocks, .ref hp0_newStarts, .ref hp0_newLengths, .int p0_newOthers, .ref hp0_newName, .ref hp0_newLong, .ref hp0_newByte, .int p0_came, .int p0_now, .int p0_nowAt])), (hp0_starts, .inl (E.1, 8, .inl z9)), (hp0_lengths, .inl (E.1, 8, .inl z10))] → va_S A s.heap H locs → lv_has ls 5 [(3, .int x7)] → W p l e w_rm_X8_free s m args below meth c H locs 0 0 Q (F0 m 92 ls [])) → ∀ (n : Nat) (z9 : (Nat → Int32)) (z10 : (Nat → Int32)) (z11 : Int32), L_X8_free_45 x8 K92 n z9 z10 z11 = some (r, o0, o1, o2, o3) → ∀ (H : Heap) (locs : List Loc) (ls : Array Slot), va_P G vwCl [(hp0, .inr (7, [.int (0 : Int32), .int p0_seed, .int p0_ram, .int p0_end, .int p0_m, .ref hp0_memory, .int p0_stackLong, .ref hp0_stack, .int x8, .ref hp0_starts, .ref hp0_lengths, .int p0_guardAt, .int p0_guardLong, .int p0_fileLong, .ref hp0_file, .int p0_others, .ref hp0_otherName, .ref hp0_otherLong, .ref hp0_otherByte, .int p0_wasFault, .int p0_fault, .int p0_faultAt, .int p0_undos, .ref hp0_undoM, .ref hp0_undoMemory, .ref hp0_undoStackLong, .ref hp0_undoStack, .ref hp0_undoBlocks, .ref hp0_undoStarts, .ref hp0_undoLengths, .int p0_made, .ref hp0_making, .int p0_at, .int p0_newM, .ref hp0_newMemory, .int p0_newStackLong, .ref hp0_newStack, .int p0_newBlocks, .ref hp0_newStarts, .ref hp0_newLengths, .int p0_newOthers, .ref hp0_newName, .ref hp0_newLong, .ref hp0_newByte, .int p0_came, .int p0_now, .int p0_nowAt])), (hp0_starts, .inl (E.1, 8, .inl z9)), (hp0_lengths, .inl (E.1, 8, .inl z10))] H → va_D A [(hp0, .inr (7, [.int (0 : Int32), .int p0_seed, .int p0_ram, .int p0_end, .int p0_m, .ref hp0_memory, .int p0_stackLong, .ref hp0_stack, .int x8, .ref hp0_starts, .ref hp0_lengths, .int p0_guardAt, .int p0_guardLong, .int p0_fileLong, .ref hp0_file, .int p0_others, .ref hp0_otherName, .ref hp0_otherLong, .ref hp0_otherByte, .int p0_wasFault, .int p0_fault, .int p0_faultAt, .int p0_undos, .ref hp0_undoM, .ref hp0_undoMemory, .ref hp0_undoStackLong, .ref hp0_undoStack, .ref hp0_undoBlocks, .ref hp0_undoStarts, .ref hp0_undoLengths, .int p0_made, .ref hp0_making, .int p0_at, .int p0_newM, .ref hp0_newMemory, .int p0_newStackLong, .ref hp0_newStack, .int p0_newBlocks, .ref hp0_newStarts, .ref hp0_newLengths, .int p0_newOthers, .ref hp0_newName, .ref hp0_newLong, .ref hp0_newByte, .int p0_came, .int p0_now, .int p0_nowAt])), (hp0_starts, .inl (E.1, 8, .inl z9)), (hp0_lengths, .inl (E.1, 8, .inl z10))] → va_S A s.heap H locs → lv_has ls 5 [(0, .ref hp0), (3, .int x7), (4, .int z11)] → W p l e w_rm_X8_free s m args below meth c H locs 0 0 Q (F0 m 45 ls []) := by
            intro K92 hK92 n
            induction n with
            | zero =>
              intro z9 z10 z11 h
              replace h : (none : Option (Int32 × Int32 × Int32 × (Nat → Int32) × (Nat → Int32))) = some (r, o0, o1, o2, o3) := h
              cases h
            | succ n ih =>
              intro z9 z10 z11 h H locs ls hP hD hS hl
              replace h : B_X8_free_45 x8 (fun z9 z10 z11 => L_X8_free_45 x8 K92 n z9 z10 z11) K92 z9 z10 z11 = some (r, o0, o1, o2, o3) := h
              obtain ⟨rec45, hrec45⟩ : ∃ f : (Nat → Int32) → (Nat → Int32) → Int32 → Option (Int32 × Int32 × Int32 × (Nat → Int32) × (Nat → Int32)), f = (fun z9 z10 z11 => L_X8_free_45 x8 K92 n z9 z10 z11) := ⟨_, rfl⟩
              rw [← hrec45] at h
              unfold B_X8_free_45 at h
              refine lv_iload hx hb dX8_free_45 (lv_at hl 2 rfl) ?_
              refine lv_aload_n hx hb dX8_free_47 rfl (lv_at hl 0 rfl) ?_
              refine getF (D := G) (ci := 7) (v := .int x8) (C := RX8) (T := TX8) (N := 47) hx hb hts inG_X8 hown hK.1 hP 0 rfl rfl 8 (by decide) tf_X8_8 (hts _ wd_f86497e1) rfl dX8_free_48 ?_
              refine lv_icmp_ge (tgt := 92) hx hb dX8_free_51 (by decide) (fun c12 => ?_) (fun c12 => ?_)
              · replace h := if_t h c12
                exact hK92 z9 z10 z11 h _ _ _ hP hD hS (lv_sub hl [1] rfl)
              · replace h := if_f h c12
                refine lv_aload_n hx hb dX8_free_54 rfl (lv_at hl 0 rfl) ?_
                refine getF (D := G) (ci := 7) (v := .ref hp0_starts) (C := RX8) (T := TX8) (N := 47) hx hb hts inG_X8 hown hK.1 hP 0 rfl rfl 9 (by decide) tf_X8_9 (hts _ wd_a6f33519) rfl dX8_free_55 ?_
                refine lv_iload hx hb dX8_free_58 (lv_at hl 2 rfl) ?_
                refine lv_aload_n hx hb dX8_free_60 rfl (lv_at hl 0 rfl) ?_
                refine getF (D := G) (ci := 7) (v := .ref hp0_starts) (C := RX8) (T := TX8) (N := 47) hx hb hts inG_X8 hown hK.1 hP 0 rfl rfl 9 (by decide) tf_X8_9 (hts _ wd_a6f33519) rfl dX8_free_61 ?_
                refine lv_iload hx hb dX8_free_64 (lv_at hl 2 rfl) ?_
                refine lv_iconst (v := 1) hx hb dX8_free_66 (by decide) ?_
                refine lv_iadd hx hb dX8_free_67 ?_
                obtain ⟨g13, h⟩ := gin_t h
                refine va_iald hx hb hK.1 hP 1 0 rfl rfl g13 dX8_free_68 ?_
                refine lv_topi (fun x14 ex14 => ?_)
                replace h := bn_t h ex14
                obtain ⟨g15, h⟩ := gin_t h
                refine va_iast hx hb hK.1 hP hD hS 1 0 rfl rfl g15 dX8_free_69 (fun H locs hP hD hS => ?_)
                have hP : va_P G vwCl [(hp0, .inr (7, [.int (0 : Int32), .int p0_seed, .int p0_ram, .int p0_end, .int p0_m, .ref hp0_memory, .int p0_stackLong, .ref hp0_stack, .int x8, .ref hp0_starts, .ref hp0_lengths, .int p0_guardAt, .int p0_guardLong, .int p0_fileLong, .ref hp0_file, .int p0_others, .ref hp0_otherName, .ref hp0_otherLong, .ref hp0_otherByte, .int p0_wasFault, .int p0_fault, .int p0_faultAt, .int p0_undos, .ref hp0_undoM, .ref hp0_undoMemory, .ref hp0_undoStackLong, .ref hp0_undoStack, .ref hp0_undoBlocks, .ref hp0_undoStarts, .ref hp0_undoLengths, .int p0_made, .ref hp0_making, .int p0_at, .int p0_newM, .ref hp0_newMemory, .int p0_newStackLong, .ref hp0_newStack, .int p0_newBlocks, .ref hp0_newStarts, .ref hp0_newLengths, .int p0_newOthers, .ref hp0_newName, .ref hp0_newLong, .ref hp0_newByte, .int p0_came, .int p0_now, .int p0_nowAt])), (hp0_starts, .inl (E.1, 8, .inl (upd z9 z11.toNatClampNeg x14))), (hp0_lengths, .inl (E.1, 8, .inl z10))] H := hP
                have hD : va_D A [(hp0, .inr (7, [.int (0 : Int32), .int p0_seed, .int p0_ram, .int p0_end, .int p0_m, .ref hp0_memory, .int p0_stackLong, .ref hp0_stack, .int x8, .ref hp0_starts, .ref hp0_lengths, .int p0_guardAt, .int p0_guardLong, .int p0_fileLong, .ref hp0_file, .int p0_others, .ref hp0_otherName, .ref hp0_otherLong, .ref hp0_otherByte, .int p0_wasFault, .int p0_fault, .int p0_faultAt, .int p0_undos, .ref hp0_undoM, .ref hp0_undoMemory, .ref hp0_undoStackLong, .ref hp0_undoStack, .ref hp0_undoBlocks, .ref hp0_undoStarts, .ref hp0_undoLengths, .int p0_made, .ref hp0_making, .int p0_at, .int p0_newM, .ref hp0_newMemory, .int p0_newStackLong, .ref hp0_newStack, .int p0_newBlocks, .ref hp0_newStarts, .ref hp0_newLengths, .int p0_newOthers, .ref hp0_newName, .ref hp0_newLong, .ref hp0_newByte, .int p0_came, .int p0_now, .int p0_nowAt])), (hp0_starts, .inl (E.1, 8, .inl (upd z9 z11.toNatClampNeg x14))), (hp0_lengths, .inl (E.1, 8, .inl z10))] := hD
                obtain ⟨m16, em16⟩ : ∃ y : Nat → Int32, y = upd z9 z11.toNatClampNeg x14 := ⟨_, rfl⟩
                replace h := bn_t h em16
                rw [← em16] at hP hD
                refine lv_aload_n hx hb dX8_free_70 rfl (lv_at hl 0 rfl) ?_
                refine getF (D := G) (ci := 7) (v := .ref hp0_lengths) (C := RX8) (T := TX8) (N := 47) hx hb hts inG_X8 hown hK.1 hP 0 rfl rfl 10 (by decide) tf_X8_10 (hts _ wd_43fba336) rfl dX8_free_71 ?_
                refine lv_iload hx hb dX8_free_74 (lv_at hl 2 rfl) ?_
                refine lv_aload_n hx hb dX8_free_76 rfl (lv_at hl 0 rfl) ?_
                refine getF (D := G) (ci := 7) (v := .ref hp0_lengths) (C := RX8) (T := TX8) (N := 47) hx hb hts inG_X8 hown hK.1 hP 0 rfl rfl 10 (by decide) tf_X8_10 (hts _ wd_43fba336) rfl dX8_free_77 ?_
                refine lv_iload hx hb dX8_free_80 (lv_at hl 2 rfl) ?_
                refine lv_iconst (v := 1) hx hb dX8_free_82 (by decide) ?_
                refine lv_iadd hx hb dX8_free_83 ?_
                obtain ⟨g17, h⟩ := gin_t h
                refine va_iald hx hb hK.1 hP 2 0 rfl rfl g17 dX8_free_84 ?_
                refine lv_topi (fun x18 ex18 => ?_)
                replace h := bn_t h ex18
                obtain ⟨g19, h⟩ := gin_t h
                refine va_iast hx hb hK.1 hP hD hS 2 0 rfl rfl g19 dX8_free_85 (fun H locs hP hD hS => ?_)
                have hP : va_P G vwCl [(hp0, .inr (7, [.int (0 : Int32), .int p0_seed, .int p0_ram, .int p0_end, .int p0_m, .ref hp0_memory, .int p0_stackLong, .ref hp0_stack, .int x8, .ref hp0_starts, .ref hp0_lengths, .int p0_guardAt, .int p0_guardLong, .int p0_fileLong, .ref hp0_file, .int p0_others, .ref hp0_otherName, .ref hp0_otherLong, .ref hp0_otherByte, .int p0_wasFault, .int p0_fault, .int p0_faultAt, .int p0_undos, .ref hp0_undoM, .ref hp0_undoMemory, .ref hp0_undoStackLong, .ref hp0_undoStack, .ref hp0_undoBlocks, .ref hp0_undoStarts, .ref hp0_undoLengths, .int p0_made, .ref hp0_making, .int p0_at, .int p0_newM, .ref hp0_newMemory, .int p0_newStackLong, .ref hp0_newStack, .int p0_newBlocks, .ref hp0_newStarts, .ref hp0_newLengths, .int p0_newOthers, .ref hp0_newName, .ref hp0_newLong, .ref hp0_newByte, .int p0_came, .int p0_now, .int p0_nowAt])), (hp0_starts, .inl (E.1, 8, .inl m16)), (hp0_lengths, .inl (E.1, 8, .inl (upd z10 z11.toNatClampNeg x18)))] H := hP
                have hD : va_D A [(hp0, .inr (7, [.int (0 : Int32), .int p0_seed, .int p0_ram, .int p0_end, .int p0_m, .ref hp0_memory, .int p0_stackLong, .ref hp0_stack, .int x8, .ref hp0_starts, .ref hp0_lengths, .int p0_guardAt, .int p0_guardLong, .int p0_fileLong, .ref hp0_file, .int p0_others, .ref hp0_otherName, .ref hp0_otherLong, .ref hp0_otherByte, .int p0_wasFault, .int p0_fault, .int p0_faultAt, .int p0_undos, .ref hp0_undoM, .ref hp0_undoMemory, .ref hp0_undoStackLong, .ref hp0_undoStack, .ref hp0_undoBlocks, .ref hp0_undoStarts, .ref hp0_undoLengths, .int p0_made, .ref hp0_making, .int p0_at, .int p0_newM, .ref hp0_newMemory, .int p0_newStackLong, .ref hp0_newStack, .int p0_newBlocks, .ref hp0_newStarts, .ref hp0_newLengths, .int p0_newOthers, .ref hp0_newName, .ref hp0_newLong, .ref hp0_newByte, .int p0_came, .int p0_now, .int p0_nowAt])), (hp0_starts, .inl (E.1, 8, .inl m16)), (hp0_lengths, .inl (E.1, 8, .inl (upd z10 z11.toNatClampNeg x18)))] := hD
                obtain ⟨m20, em20⟩ : ∃ y : Nat → Int32, y = upd z10 z11.toNatClampNeg x18 := ⟨_, rfl⟩
                replace h := bn_t h em20
                rw [← em20] at hP hD
                obtain ⟨x21, ex21⟩ : ∃ y : Int32, y = z11 + 1 := ⟨_, rfl⟩
                replace h := bn_t h ex21
                refine lv_iinc (v := x21) (lv' := [(4, .int x21), (0, .ref hp0), (3, .int x7)]) hx hb dX8_free_86 hl (k := 2) rfl (by rw [ex21]; rfl) (by decide) rfl (fun ls hl => ?_)
                refine lv_goto (tgt := 45) hx hb dX8_free_89 (by decide) ?_
                exact ih m16 m20 x21 (by rw [hrec45] at h; exact h) _ _ _ hP hD hS (lv_sub hl [1, 2, 0] rfl)
          refine hL45 _ (fun z9 z10 z11 h H locs ls hP hD hS hl => ?_) N p0_starts p0_lengths z1 h _ _ _ hP hD hS (lv_sub hl [2, 1, 0] rfl)
          try dsimp only at h
          refine lv_iload_n hx hb dX8_free_92 rfl (lv_at hl 0 rfl) ?_
          cases h
          exact ret _ _ _ _ _ (fun _ => 0) rfl rfl hP hD hS dX8_free_93
  refine hL7 _ (fun z1 h H locs ls hP hD hS hl => ?_) N (0 : Int32) h _ _ _ hP hD hS (lv_sub hl [1, 2, 0] rfl)
  try dsimp only at h
  refine lv_iconst (v := (-1)) hx hb dX8_free_100 (by decide) ?_
  cases h
  exact ret _ _ _ _ _ (fun _ => 0) rfl rfl hP hD hS dX8_free_101
def f_X8_protect (i1 : Int32) (i2 : Int32) (p0_guardAt : Int32) (p0_guardLong : Int32) : Option (Int32 × Int32 × Int32 × Int32) :=
  bd (f_X8_in i1.toInt64 (0 : Int64) (511 : Int64)) fun u1 =>
  if u1 = 0 then (
  some ((-2 : Int32), (0 : Int32), p0_guardAt, p0_guardLong))
  else
  bd (f_X8_in i2.toInt64 (0 : Int64) (512 : Int64)) fun u4 =>
  if u4 = 0 then (
  some ((-2 : Int32), (0 : Int32), p0_guardAt, p0_guardLong))
  else
  some ((1 : Int32), (0 : Int32), i1, i2)
abbrev w_rm_X8_protect : Room := { frames := 1, cells := 0, slots := 0, locals := 25 }
set_option maxHeartbeats 4000000 in
set_option maxRecDepth 100000 in
theorem c_X8_protect (l : Launch) (G : va_G) (E : ClassId × ClassId × ClassId) (hp0 : Nat) (p0_thrown : Int32) (p0_seed : Int32) (p0_ram : Int32) (p0_end : Int32) (p0_m : Int32) (hp0_memory : Nat) (p0_stackLong : Int32) (hp0_stack : Nat) (p0_blocks : Int32) (hp0_starts : Nat) (hp0_lengths : Nat) (p0_guardAt : Int32) (p0_guardLong : Int32) (p0_fileLong : Int32) (hp0_file : Nat) (p0_others : Int32) (hp0_otherName : Nat) (hp0_otherLong : Nat) (hp0_otherByte : Nat) (p0_wasFault : Int32) (p0_fault : Int32) (p0_faultAt : Int32) (p0_undos : Int32) (hp0_undoM : Nat) (hp0_undoMemory : Nat) (hp0_undoStackLong : Nat) (hp0_undoStack : Nat) (hp0_undoBlocks : Nat) (hp0_undoStarts : Nat) (hp0_undoLengths : Nat) (p0_made : Int32) (hp0_making : Nat) (p0_at : Int32) (p0_newM : Int32) (hp0_newMemory : Nat) (p0_newStackLong : Int32) (hp0_newStack : Nat) (p0_newBlocks : Int32) (hp0_newStarts : Nat) (hp0_newLengths : Nat) (p0_newOthers : Int32) (hp0_newName : Nat) (hp0_newLong : Nat) (hp0_newByte : Nat) (p0_came : Int32) (p0_now : Int32) (p0_nowAt : Int32) (i1 : Int32) (i2 : Int32) (r : Int32) (o0 : Int32) (o1 : Int32) (o2 : Int32) (h : f_X8_protect i1 i2 p0_guardAt p0_guardLong = some (r, o0, o1, o2)) : MI l G E yX8_protect cX8_protect 3 .int w_rm_X8_protect [.ref hp0, .int i1, .int i2] [(hp0, .inr (7, [.int p0_thrown, .int p0_seed, .int p0_ram, .int p0_end, .int p0_m, .ref hp0_memory, .int p0_stackLong, .ref hp0_stack, .int p0_blocks, .ref hp0_starts, .ref hp0_lengths, .int p0_guardAt, .int p0_guardLong, .int p0_fileLong, .ref hp0_file, .int p0_others, .ref hp0_otherName, .ref hp0_otherLong, .ref hp0_otherByte, .int p0_wasFault, .int p0_fault, .int p0_faultAt, .int p0_undos, .ref hp0_undoM, .ref hp0_undoMemory, .ref hp0_undoStackLong, .ref hp0_undoStack, .ref hp0_undoBlocks, .ref hp0_undoStarts, .ref hp0_undoLengths, .int p0_made, .ref hp0_making, .int p0_at, .int p0_newM, .ref hp0_newMemory, .int p0_newStackLong, .ref hp0_newStack, .int p0_newBlocks, .ref hp0_newStarts, .ref hp0_newLengths, .int p0_newOthers, .ref hp0_newName, .ref hp0_newLong, .ref hp0_newByte, .int p0_came, .int p0_now, .int p0_nowAt]))] r (fun a => [(hp0, .inr (7, [.int o0, .int p0_seed, .int p0_ram, .int p0_end, .int p0_m, .ref hp0_memory, .int p0_stackLong, .ref hp0_stack, .int p0_blocks, .ref hp0_starts, .ref hp0_lengths, .int o1, .int o2, .int p0_fileLong, .ref hp0_file, .int p0_others, .ref hp0_otherName, .ref hp0_otherLong, .ref hp0_otherByte, .int p0_wasFault, .int p0_fault, .int p0_faultAt, .int p0_undos, .ref hp0_undoM, .ref hp0_undoMemory, .ref hp0_undoStackLong, .ref hp0_undoStack, .ref hp0_undoBlocks, .ref hp0_undoStarts, .ref hp0_undoLengths, .int p0_made, .ref hp0_making, .int p0_at, .int p0_newM, .ref hp0_newMemory, .int p0_newStackLong, .ref hp0_newStack, .int p0_newBlocks, .ref hp0_newStarts, .ref hp0_newLengths, .int p0_newOthers, .ref hp0_newName, .ref hp0_newLong, .ref hp0_newByte, .int p0_came, .int p0_now, .int p0_nowAt]))]) 0 0 := by
  refine MI_of (by decide) (Nat.le_of_ble_eq_true rfl) ?_
  intro p e s m args below meth c A Q hx hb hml hown hts hK hA hP hD hS ret ls hl
  replace hl : lv_has ls 3 [(0, .ref hp0), (1, .int i1), (2, .int i2)] := hl
  unfold f_X8_protect at h
  refine lv_aload_n hx hb dX8_protect_0 rfl (lv_at hl 0 rfl) ?_
  refine lv_iconst (v := 0) hx hb dX8_protect_1 (by decide) ?_
  refine putF (D := G) (ci := 7) (v := .int (0 : Int32)) (ty := .int) (C := RX8) (T := TX8) (N := 47) hx hb hts inG_X8 tyX8 tyX8_ok nmX8 hown hK.1 hP hD hS 0 rfl rfl 0 (by decide) tf_X8_0 (hts _ wd_d7e2667f) pd_I rfl rfl (Nat.le_of_ble_eq_true rfl) dX8_protect_2 (fun H locs hP hD hS => ?_)
  have hP : va_P G vwCl [(hp0, .inr (7, [.int (0 : Int32), .int p0_seed, .int p0_ram, .int p0_end, .int p0_m, .ref hp0_memory, .int p0_stackLong, .ref hp0_stack, .int p0_blocks, .ref hp0_starts, .ref hp0_lengths, .int p0_guardAt, .int p0_guardLong, .int p0_fileLong, .ref hp0_file, .int p0_others, .ref hp0_otherName, .ref hp0_otherLong, .ref hp0_otherByte, .int p0_wasFault, .int p0_fault, .int p0_faultAt, .int p0_undos, .ref hp0_undoM, .ref hp0_undoMemory, .ref hp0_undoStackLong, .ref hp0_undoStack, .ref hp0_undoBlocks, .ref hp0_undoStarts, .ref hp0_undoLengths, .int p0_made, .ref hp0_making, .int p0_at, .int p0_newM, .ref hp0_newMemory, .int p0_newStackLong, .ref hp0_newStack, .int p0_newBlocks, .ref hp0_newStarts, .ref hp0_newLengths, .int p0_newOthers, .ref hp0_newName, .ref hp0_newLong, .ref hp0_newByte, .int p0_came, .int p0_now, .int p0_nowAt]))] H := hP
  have hD : va_D A [(hp0, .inr (7, [.int (0 : Int32), .int p0_seed, .int p0_ram, .int p0_end, .int p0_m, .ref hp0_memory, .int p0_stackLong, .ref hp0_stack, .int p0_blocks, .ref hp0_starts, .ref hp0_lengths, .int p0_guardAt, .int p0_guardLong, .int p0_fileLong, .ref hp0_file, .int p0_others, .ref hp0_otherName, .ref hp0_otherLong, .ref hp0_otherByte, .int p0_wasFault, .int p0_fault, .int p0_faultAt, .int p0_undos, .ref hp0_undoM, .ref hp0_undoMemory, .ref hp0_undoStackLong, .ref hp0_undoStack, .ref hp0_undoBlocks, .ref hp0_undoStarts, .ref hp0_undoLengths, .int p0_made, .ref hp0_making, .int p0_at, .int p0_newM, .ref hp0_newMemory, .int p0_newStackLong, .ref hp0_newStack, .int p0_newBlocks, .ref hp0_newStarts, .ref hp0_newLengths, .int p0_newOthers, .ref hp0_newName, .ref hp0_newLong, .ref hp0_newByte, .int p0_came, .int p0_now, .int p0_nowAt]))] := hD
  refine lv_iload_n hx hb dX8_protect_5 rfl (lv_at hl 1 rfl) ?_
  refine lv_i2l hx hb dX8_protect_6 rfl ?_
  refine lv_lconst (v := 0) hx hb dX8_protect_7 (by decide) ?_
  refine lv_ldc2 hx hb hown (hts _ wd_f073ccae) dX8_protect_8 ?_
  obtain ⟨u1, hu1, h⟩ := bd_t h
  refine cSi (wr := [(hp0, .inr (7, [.int (0 : Int32), .int p0_seed, .int p0_ram, .int p0_end, .int p0_m, .ref hp0_memory, .int p0_stackLong, .ref hp0_stack, .int p0_blocks, .ref hp0_starts, .ref hp0_lengths, .int p0_guardAt, .int p0_guardLong, .int p0_fileLong, .ref hp0_file, .int p0_others, .ref hp0_otherName, .ref hp0_otherLong, .ref hp0_otherByte, .int p0_wasFault, .int p0_fault, .int p0_faultAt, .int p0_undos, .ref hp0_undoM, .ref hp0_undoMemory, .ref hp0_undoStackLong, .ref hp0_undoStack, .ref hp0_undoBlocks, .ref hp0_undoStarts, .ref hp0_undoLengths, .int p0_made, .ref hp0_making, .int p0_at, .int p0_newM, .ref hp0_newMemory, .int p0_newStackLong, .ref hp0_newStack, .int p0_newBlocks, .ref hp0_newStarts, .ref hp0_newLengths, .int p0_newOthers, .ref hp0_newName, .ref hp0_newLong, .ref hp0_newByte, .int p0_came, .int p0_now, .int p0_nowAt]))]) (As := [.long i1.toInt64, .long (0 : Int64), .long (511 : Int64)]) (rest := []) ⟨hx, hb, hml, hown, hts⟩ (c_X8_in l G E i1.toInt64 (0 : Int64) (511 : Int64) u1 hu1) ok_X8_in oks_X8_in wd_1cec0843 ⟨Nat.le_of_ble_eq_true rfl, Nat.le_of_ble_eq_true rfl⟩ hK hP hD hS hA [] [0] rfl rfl (by decide) (by decide) (by decide) rfl hl.1 rfl (Nat.le_of_ble_eq_true rfl) dX8_protect_11 ⟨Nat.le_of_ble_eq_true rfl, Nat.le_of_ble_eq_true rfl⟩ (fun H locs a2 hP hD hS => ?_)
  have hP : va_P G vwCl [(hp0, .inr (7, [.int (0 : Int32), .int p0_seed, .int p0_ram, .int p0_end, .int p0_m, .ref hp0_memory, .int p0_stackLong, .ref hp0_stack, .int p0_blocks, .ref hp0_starts, .ref hp0_lengths, .int p0_guardAt, .int p0_guardLong, .int p0_fileLong, .ref hp0_file, .int p0_others, .ref hp0_otherName, .ref hp0_otherLong, .ref hp0_otherByte, .int p0_wasFault, .int p0_fault, .int p0_faultAt, .int p0_undos, .ref hp0_undoM, .ref hp0_undoMemory, .ref hp0_undoStackLong, .ref hp0_undoStack, .ref hp0_undoBlocks, .ref hp0_undoStarts, .ref hp0_undoLengths, .int p0_made, .ref hp0_making, .int p0_at, .int p0_newM, .ref hp0_newMemory, .int p0_newStackLong, .ref hp0_newStack, .int p0_newBlocks, .ref hp0_newStarts, .ref hp0_newLengths, .int p0_newOthers, .ref hp0_newName, .ref hp0_newLong, .ref hp0_newByte, .int p0_came, .int p0_now, .int p0_nowAt]))] H := hP
  have hD : va_D A [(hp0, .inr (7, [.int (0 : Int32), .int p0_seed, .int p0_ram, .int p0_end, .int p0_m, .ref hp0_memory, .int p0_stackLong, .ref hp0_stack, .int p0_blocks, .ref hp0_starts, .ref hp0_lengths, .int p0_guardAt, .int p0_guardLong, .int p0_fileLong, .ref hp0_file, .int p0_others, .ref hp0_otherName, .ref hp0_otherLong, .ref hp0_otherByte, .int p0_wasFault, .int p0_fault, .int p0_faultAt, .int p0_undos, .ref hp0_undoM, .ref hp0_undoMemory, .ref hp0_undoStackLong, .ref hp0_undoStack, .ref hp0_undoBlocks, .ref hp0_undoStarts, .ref hp0_undoLengths, .int p0_made, .ref hp0_making, .int p0_at, .int p0_newM, .ref hp0_newMemory, .int p0_newStackLong, .ref hp0_newStack, .int p0_newBlocks, .ref hp0_newStarts, .ref hp0_newLengths, .int p0_newOthers, .ref hp0_newName, .ref hp0_newLong, .ref hp0_newByte, .int p0_came, .int p0_now, .int p0_nowAt]))] := hD
  refine lv_if_eq (tgt := 29) hx hb dX8_protect_14 (by decide) (fun c3 => ?_) (fun c3 => ?_)
  · replace h := if_t h c3
    refine lv_bipush (v := (-2)) hx hb dX8_protect_29 (by decide) ?_
    cases h
    exact ret _ _ _ _ _ (fun _ => 0) rfl rfl hP hD hS dX8_protect_31
  · replace h := if_f h c3
    refine lv_iload_n hx hb dX8_protect_17 rfl (lv_at hl 2 rfl) ?_
    refine lv_i2l hx hb dX8_protect_18 rfl ?_
    refine lv_lconst (v := 0) hx hb dX8_protect_19 (by decide) ?_
    refine lv_ldc2 hx hb hown (hts _ wd_460a2223) dX8_protect_20 ?_
    obtain ⟨u4, hu4, h⟩ := bd_t h
    refine cSi (wr := [(hp0, .inr (7, [.int (0 : Int32), .int p0_seed, .int p0_ram, .int p0_end, .int p0_m, .ref hp0_memory, .int p0_stackLong, .ref hp0_stack, .int p0_blocks, .ref hp0_starts, .ref hp0_lengths, .int p0_guardAt, .int p0_guardLong, .int p0_fileLong, .ref hp0_file, .int p0_others, .ref hp0_otherName, .ref hp0_otherLong, .ref hp0_otherByte, .int p0_wasFault, .int p0_fault, .int p0_faultAt, .int p0_undos, .ref hp0_undoM, .ref hp0_undoMemory, .ref hp0_undoStackLong, .ref hp0_undoStack, .ref hp0_undoBlocks, .ref hp0_undoStarts, .ref hp0_undoLengths, .int p0_made, .ref hp0_making, .int p0_at, .int p0_newM, .ref hp0_newMemory, .int p0_newStackLong, .ref hp0_newStack, .int p0_newBlocks, .ref hp0_newStarts, .ref hp0_newLengths, .int p0_newOthers, .ref hp0_newName, .ref hp0_newLong, .ref hp0_newByte, .int p0_came, .int p0_now, .int p0_nowAt]))]) (As := [.long i2.toInt64, .long (0 : Int64), .long (512 : Int64)]) (rest := []) ⟨hx, hb, hml, hown, hts⟩ (c_X8_in l G E i2.toInt64 (0 : Int64) (512 : Int64) u4 hu4) ok_X8_in oks_X8_in wd_1cec0843 ⟨Nat.le_of_ble_eq_true rfl, Nat.le_of_ble_eq_true rfl⟩ hK hP hD hS hA [] [0] rfl rfl (by decide) (by decide) (by decide) rfl hl.1 rfl (Nat.le_of_ble_eq_true rfl) dX8_protect_23 ⟨Nat.le_of_ble_eq_true rfl, Nat.le_of_ble_eq_true rfl⟩ (fun H locs a5 hP hD hS => ?_)
    have hP : va_P G vwCl [(hp0, .inr (7, [.int (0 : Int32), .int p0_seed, .int p0_ram, .int p0_end, .int p0_m, .ref hp0_memory, .int p0_stackLong, .ref hp0_stack, .int p0_blocks, .ref hp0_starts, .ref hp0_lengths, .int p0_guardAt, .int p0_guardLong, .int p0_fileLong, .ref hp0_file, .int p0_others, .ref hp0_otherName, .ref hp0_otherLong, .ref hp0_otherByte, .int p0_wasFault, .int p0_fault, .int p0_faultAt, .int p0_undos, .ref hp0_undoM, .ref hp0_undoMemory, .ref hp0_undoStackLong, .ref hp0_undoStack, .ref hp0_undoBlocks, .ref hp0_undoStarts, .ref hp0_undoLengths, .int p0_made, .ref hp0_making, .int p0_at, .int p0_newM, .ref hp0_newMemory, .int p0_newStackLong, .ref hp0_newStack, .int p0_newBlocks, .ref hp0_newStarts, .ref hp0_newLengths, .int p0_newOthers, .ref hp0_newName, .ref hp0_newLong, .ref hp0_newByte, .int p0_came, .int p0_now, .int p0_nowAt]))] H := hP
    have hD : va_D A [(hp0, .inr (7, [.int (0 : Int32), .int p0_seed, .int p0_ram, .int p0_end, .int p0_m, .ref hp0_memory, .int p0_stackLong, .ref hp0_stack, .int p0_blocks, .ref hp0_starts, .ref hp0_lengths, .int p0_guardAt, .int p0_guardLong, .int p0_fileLong, .ref hp0_file, .int p0_others, .ref hp0_otherName, .ref hp0_otherLong, .ref hp0_otherByte, .int p0_wasFault, .int p0_fault, .int p0_faultAt, .int p0_undos, .ref hp0_undoM, .ref hp0_undoMemory, .ref hp0_undoStackLong, .ref hp0_undoStack, .ref hp0_undoBlocks, .ref hp0_undoStarts, .ref hp0_undoLengths, .int p0_made, .ref hp0_making, .int p0_at, .int p0_newM, .ref hp0_newMemory, .int p0_newStackLong, .ref hp0_newStack, .int p0_newBlocks, .ref hp0_newStarts, .ref hp0_newLengths, .int p0_newOthers, .ref hp0_newName, .ref hp0_newLong, .ref hp0_newByte, .int p0_came, .int p0_now, .int p0_nowAt]))] := hD
    refine lv_if_ne (tgt := 32) hx hb dX8_protect_26 (by decide) (fun c6 => ?_) (fun c6 => ?_)
    · replace h := if_f h c6
      refine lv_aload_n hx hb dX8_protect_32 rfl (lv_at hl 0 rfl) ?_
      refine lv_iload_n hx hb dX8_protect_33 rfl (lv_at hl 1 rfl) ?_
      refine putF (D := G) (ci := 7) (v := .int i1) (ty := .int) (C := RX8) (T := TX8) (N := 47) hx hb hts inG_X8 tyX8 tyX8_ok nmX8 hown hK.1 hP hD hS 0 rfl rfl 11 (by decide) tf_X8_11 (hts _ wd_d026fe99) pd_I rfl rfl (Nat.le_of_ble_eq_true rfl) dX8_protect_34 (fun H locs hP hD hS => ?_)
      have hP : va_P G vwCl [(hp0, .inr (7, [.int (0 : Int32), .int p0_seed, .int p0_ram, .int p0_end, .int p0_m, .ref hp0_memory, .int p0_stackLong, .ref hp0_stack, .int p0_blocks, .ref hp0_starts, .ref hp0_lengths, .int i1, .int p0_guardLong, .int p0_fileLong, .ref hp0_file, .int p0_others, .ref hp0_otherName, .ref hp0_otherLong, .ref hp0_otherByte, .int p0_wasFault, .int p0_fault, .int p0_faultAt, .int p0_undos, .ref hp0_undoM, .ref hp0_undoMemory, .ref hp0_undoStackLong, .ref hp0_undoStack, .ref hp0_undoBlocks, .ref hp0_undoStarts, .ref hp0_undoLengths, .int p0_made, .ref hp0_making, .int p0_at, .int p0_newM, .ref hp0_newMemory, .int p0_newStackLong, .ref hp0_newStack, .int p0_newBlocks, .ref hp0_newStarts, .ref hp0_newLengths, .int p0_newOthers, .ref hp0_newName, .ref hp0_newLong, .ref hp0_newByte, .int p0_came, .int p0_now, .int p0_nowAt]))] H := hP
      have hD : va_D A [(hp0, .inr (7, [.int (0 : Int32), .int p0_seed, .int p0_ram, .int p0_end, .int p0_m, .ref hp0_memory, .int p0_stackLong, .ref hp0_stack, .int p0_blocks, .ref hp0_starts, .ref hp0_lengths, .int i1, .int p0_guardLong, .int p0_fileLong, .ref hp0_file, .int p0_others, .ref hp0_otherName, .ref hp0_otherLong, .ref hp0_otherByte, .int p0_wasFault, .int p0_fault, .int p0_faultAt, .int p0_undos, .ref hp0_undoM, .ref hp0_undoMemory, .ref hp0_undoStackLong, .ref hp0_undoStack, .ref hp0_undoBlocks, .ref hp0_undoStarts, .ref hp0_undoLengths, .int p0_made, .ref hp0_making, .int p0_at, .int p0_newM, .ref hp0_newMemory, .int p0_newStackLong, .ref hp0_newStack, .int p0_newBlocks, .ref hp0_newStarts, .ref hp0_newLengths, .int p0_newOthers, .ref hp0_newName, .ref hp0_newLong, .ref hp0_newByte, .int p0_came, .int p0_now, .int p0_nowAt]))] := hD
      refine lv_aload_n hx hb dX8_protect_37 rfl (lv_at hl 0 rfl) ?_
      refine lv_iload_n hx hb dX8_protect_38 rfl (lv_at hl 2 rfl) ?_
      refine putF (D := G) (ci := 7) (v := .int i2) (ty := .int) (C := RX8) (T := TX8) (N := 47) hx hb hts inG_X8 tyX8 tyX8_ok nmX8 hown hK.1 hP hD hS 0 rfl rfl 12 (by decide) tf_X8_12 (hts _ wd_a3e294a3) pd_I rfl rfl (Nat.le_of_ble_eq_true rfl) dX8_protect_39 (fun H locs hP hD hS => ?_)
      have hP : va_P G vwCl [(hp0, .inr (7, [.int (0 : Int32), .int p0_seed, .int p0_ram, .int p0_end, .int p0_m, .ref hp0_memory, .int p0_stackLong, .ref hp0_stack, .int p0_blocks, .ref hp0_starts, .ref hp0_lengths, .int i1, .int i2, .int p0_fileLong, .ref hp0_file, .int p0_others, .ref hp0_otherName, .ref hp0_otherLong, .ref hp0_otherByte, .int p0_wasFault, .int p0_fault, .int p0_faultAt, .int p0_undos, .ref hp0_undoM, .ref hp0_undoMemory, .ref hp0_undoStackLong, .ref hp0_undoStack, .ref hp0_undoBlocks, .ref hp0_undoStarts, .ref hp0_undoLengths, .int p0_made, .ref hp0_making, .int p0_at, .int p0_newM, .ref hp0_newMemory, .int p0_newStackLong, .ref hp0_newStack, .int p0_newBlocks, .ref hp0_newStarts, .ref hp0_newLengths, .int p0_newOthers, .ref hp0_newName, .ref hp0_newLong, .ref hp0_newByte, .int p0_came, .int p0_now, .int p0_nowAt]))] H := hP
      have hD : va_D A [(hp0, .inr (7, [.int (0 : Int32), .int p0_seed, .int p0_ram, .int p0_end, .int p0_m, .ref hp0_memory, .int p0_stackLong, .ref hp0_stack, .int p0_blocks, .ref hp0_starts, .ref hp0_lengths, .int i1, .int i2, .int p0_fileLong, .ref hp0_file, .int p0_others, .ref hp0_otherName, .ref hp0_otherLong, .ref hp0_otherByte, .int p0_wasFault, .int p0_fault, .int p0_faultAt, .int p0_undos, .ref hp0_undoM, .ref hp0_undoMemory, .ref hp0_undoStackLong, .ref hp0_undoStack, .ref hp0_undoBlocks, .ref hp0_undoStarts, .ref hp0_undoLengths, .int p0_made, .ref hp0_making, .int p0_at, .int p0_newM, .ref hp0_newMemory, .int p0_newStackLong, .ref hp0_newStack, .int p0_newBlocks, .ref hp0_newStarts, .ref hp0_newLengths, .int p0_newOthers, .ref hp0_newName, .ref hp0_newLong, .ref hp0_newByte, .int p0_came, .int p0_now, .int p0_nowAt]))] := hD
      refine lv_iconst (v := 1) hx hb dX8_protect_42 (by decide) ?_
      cases h
      exact ret _ _ _ _ _ (fun _ => 0) rfl rfl hP hD hS dX8_protect_43
    · replace h := if_t h c6
      refine lv_bipush (v := (-2)) hx hb dX8_protect_29 (by decide) ?_
      cases h
      exact ret _ _ _ _ _ (fun _ => 0) rfl rfl hP hD hS dX8_protect_31
def f_X8_isGuarded (i1 : Int32) (p0_guardAt : Int32) (p0_guardLong : Int32) : Option (Int32) :=
  if i1 < p0_guardAt then (
  some ((0 : Int32)))
  else
  if (p0_guardAt + p0_guardLong) ≤ i1 then (
  some ((0 : Int32)))
  else
  some ((1 : Int32))
abbrev w_rm_X8_isGuarded : Room := { frames := 0, cells := 0, slots := 0, locals := 0 }
set_option maxHeartbeats 4000000 in
set_option maxRecDepth 100000 in
theorem c_X8_isGuarded (l : Launch) (G : va_G) (E : ClassId × ClassId × ClassId) (hp0 : Nat) (p0_thrown : Int32) (p0_seed : Int32) (p0_ram : Int32) (p0_end : Int32) (p0_m : Int32) (hp0_memory : Nat) (p0_stackLong : Int32) (hp0_stack : Nat) (p0_blocks : Int32) (hp0_starts : Nat) (hp0_lengths : Nat) (p0_guardAt : Int32) (p0_guardLong : Int32) (p0_fileLong : Int32) (hp0_file : Nat) (p0_others : Int32) (hp0_otherName : Nat) (hp0_otherLong : Nat) (hp0_otherByte : Nat) (p0_wasFault : Int32) (p0_fault : Int32) (p0_faultAt : Int32) (p0_undos : Int32) (hp0_undoM : Nat) (hp0_undoMemory : Nat) (hp0_undoStackLong : Nat) (hp0_undoStack : Nat) (hp0_undoBlocks : Nat) (hp0_undoStarts : Nat) (hp0_undoLengths : Nat) (p0_made : Int32) (hp0_making : Nat) (p0_at : Int32) (p0_newM : Int32) (hp0_newMemory : Nat) (p0_newStackLong : Int32) (hp0_newStack : Nat) (p0_newBlocks : Int32) (hp0_newStarts : Nat) (hp0_newLengths : Nat) (p0_newOthers : Int32) (hp0_newName : Nat) (hp0_newLong : Nat) (hp0_newByte : Nat) (p0_came : Int32) (p0_now : Int32) (p0_nowAt : Int32) (i1 : Int32) (r : Int32) (h : f_X8_isGuarded i1 p0_guardAt p0_guardLong = some (r)) : MI l G E yX8_isGuarded cX8_isGuarded 2 .boolean w_rm_X8_isGuarded [.ref hp0, .int i1] [(hp0, .inr (7, [.int p0_thrown, .int p0_seed, .int p0_ram, .int p0_end, .int p0_m, .ref hp0_memory, .int p0_stackLong, .ref hp0_stack, .int p0_blocks, .ref hp0_starts, .ref hp0_lengths, .int p0_guardAt, .int p0_guardLong, .int p0_fileLong, .ref hp0_file, .int p0_others, .ref hp0_otherName, .ref hp0_otherLong, .ref hp0_otherByte, .int p0_wasFault, .int p0_fault, .int p0_faultAt, .int p0_undos, .ref hp0_undoM, .ref hp0_undoMemory, .ref hp0_undoStackLong, .ref hp0_undoStack, .ref hp0_undoBlocks, .ref hp0_undoStarts, .ref hp0_undoLengths, .int p0_made, .ref hp0_making, .int p0_at, .int p0_newM, .ref hp0_newMemory, .int p0_newStackLong, .ref hp0_newStack, .int p0_newBlocks, .ref hp0_newStarts, .ref hp0_newLengths, .int p0_newOthers, .ref hp0_newName, .ref hp0_newLong, .ref hp0_newByte, .int p0_came, .int p0_now, .int p0_nowAt]))] r (fun a => [(hp0, .inr (7, [.int p0_thrown, .int p0_seed, .int p0_ram, .int p0_end, .int p0_m, .ref hp0_memory, .int p0_stackLong, .ref hp0_stack, .int p0_blocks, .ref hp0_starts, .ref hp0_lengths, .int p0_guardAt, .int p0_guardLong, .int p0_fileLong, .ref hp0_file, .int p0_others, .ref hp0_otherName, .ref hp0_otherLong, .ref hp0_otherByte, .int p0_wasFault, .int p0_fault, .int p0_faultAt, .int p0_undos, .ref hp0_undoM, .ref hp0_undoMemory, .ref hp0_undoStackLong, .ref hp0_undoStack, .ref hp0_undoBlocks, .ref hp0_undoStarts, .ref hp0_undoLengths, .int p0_made, .ref hp0_making, .int p0_at, .int p0_newM, .ref hp0_newMemory, .int p0_newStackLong, .ref hp0_newStack, .int p0_newBlocks, .ref hp0_newStarts, .ref hp0_newLengths, .int p0_newOthers, .ref hp0_newName, .ref hp0_newLong, .ref hp0_newByte, .int p0_came, .int p0_now, .int p0_nowAt]))]) 0 0 := by
  refine MI_of (by decide) (Nat.le_of_ble_eq_true rfl) ?_
  intro p e s m args below meth c A Q hx hb hml hown hts hK hA hP hD hS ret ls hl
  replace hl : lv_has ls 2 [(0, .ref hp0), (1, .int i1)] := hl
  unfold f_X8_isGuarded at h
  refine lv_iload_n hx hb dX8_isGuarded_0 rfl (lv_at hl 1 rfl) ?_
  refine lv_aload_n hx hb dX8_isGuarded_1 rfl (lv_at hl 0 rfl) ?_
  refine getF (D := G) (ci := 7) (v := .int p0_guardAt) (C := RX8) (T := TX8) (N := 47) hx hb hts inG_X8 hown hK.1 hP 0 rfl rfl 11 (by decide) tf_X8_11 (hts _ wd_d026fe99) rfl dX8_isGuarded_2 ?_
  refine lv_icmp_lt (tgt := 25) hx hb dX8_isGuarded_5 (by decide) (fun c1 => ?_) (fun c1 => ?_)
  · replace h := if_t h c1
    refine lv_iconst (v := 0) hx hb dX8_isGuarded_25 (by decide) ?_
    cases h
    exact ret _ _ _ _ _ (fun _ => 0) rfl rfl hP hD hS dX8_isGuarded_26
  · replace h := if_f h c1
    refine lv_iload_n hx hb dX8_isGuarded_8 rfl (lv_at hl 1 rfl) ?_
    refine lv_aload_n hx hb dX8_isGuarded_9 rfl (lv_at hl 0 rfl) ?_
    refine getF (D := G) (ci := 7) (v := .int p0_guardAt) (C := RX8) (T := TX8) (N := 47) hx hb hts inG_X8 hown hK.1 hP 0 rfl rfl 11 (by decide) tf_X8_11 (hts _ wd_d026fe99) rfl dX8_isGuarded_10 ?_
    refine lv_aload_n hx hb dX8_isGuarded_13 rfl (lv_at hl 0 rfl) ?_
    refine getF (D := G) (ci := 7) (v := .int p0_guardLong) (C := RX8) (T := TX8) (N := 47) hx hb hts inG_X8 hown hK.1 hP 0 rfl rfl 12 (by decide) tf_X8_12 (hts _ wd_a3e294a3) rfl dX8_isGuarded_14 ?_
    refine lv_iadd hx hb dX8_isGuarded_17 ?_
    refine lv_icmp_ge (tgt := 25) hx hb dX8_isGuarded_18 (by decide) (fun c2 => ?_) (fun c2 => ?_)
    · replace h := if_t h c2
      refine lv_iconst (v := 0) hx hb dX8_isGuarded_25 (by decide) ?_
      cases h
      exact ret _ _ _ _ _ (fun _ => 0) rfl rfl hP hD hS dX8_isGuarded_26
    · replace h := if_f h c2
      refine lv_iconst (v := 1) hx hb dX8_isGuarded_21 (by decide) ?_
      refine lv_goto (tgt := 26) hx hb dX8_isGuarded_22 (by decide) ?_
      cases h
      exact ret _ _ _ _ _ (fun _ => 0) rfl rfl hP hD hS dX8_isGuarded_26
