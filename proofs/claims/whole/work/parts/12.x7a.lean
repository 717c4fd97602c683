def f_X7_isByte (i0 : Int32) : Option (Int32) :=
  if i0 < 0 then (
  some ((0 : Int32)))
  else
  if (255 : Int32) < i0 then (
  some ((0 : Int32)))
  else
  some ((1 : Int32))
abbrev w_rm_X7_isByte : Room := { frames := 0, cells := 0, slots := 0, locals := 0 }
set_option maxHeartbeats 4000000 in
set_option maxRecDepth 100000 in
theorem c_X7_isByte (l : Launch) (G : va_G) (E : ClassId × ClassId × ClassId) (i0 : Int32) (r : Int32) (h : f_X7_isByte i0 = some (r)) : MI l G E yX7_isByte cX7_isByte 1 .boolean w_rm_X7_isByte [.int i0] [] r (fun a => []) 0 0 := by
  refine MI_of (by decide) (Nat.le_of_ble_eq_true rfl) ?_
  intro p e s m args below meth c A Q hx hb hml hown hts hK hA hP hD hS ret ls hl
  replace ret : ∀ (R : (Int32)), R = (r) → ∀ (H : Heap) (locs : List Loc) (pc : Nat) (ls : Array Slot) (v : Int32) (a : Nat → Nat), v = R → narrow .boolean (.int v) = .int v → va_P G vwCl [] H → va_D A [] → va_S A s.heap H locs → decode cX7_isByte pc = .ok (.ireturn, 1) → W p l e w_rm_X7_isByte s m args below meth c H locs 0 0 Q (F0 m pc ls [.int v]) := by
    intro R hR
    subst hR
    exact ret
  replace hl : lv_has ls 1 [(0, .int i0)] := hl
  unfold f_X7_isByte at h
  refine lv_iload_n hx hb dX7_isByte_0 rfl (lv_at hl 0 rfl) ?_
  refine lv_if_lt (tgt := 15) hx hb dX7_isByte_1 (by decide) (fun c1 => ?_) (fun c1 => ?_)
  · replace h := if_t h c1
    refine lv_iconst (v := 0) hx hb dX7_isByte_15 (by decide) ?_
    exact ret ((0 : Int32)) (Option.some.inj h) _ _ _ _ _ (fun _ => 0) rfl rfl hP hD hS dX7_isByte_16
  · replace h := if_f h c1
    refine lv_iload_n hx hb dX7_isByte_4 rfl (lv_at hl 0 rfl) ?_
    refine lv_sipush (v := 255) hx hb dX7_isByte_5 (by decide) ?_
    refine lv_icmp_gt (tgt := 15) hx hb dX7_isByte_8 (by decide) (fun c2 => ?_) (fun c2 => ?_)
    · replace h := if_t h c2
      refine lv_iconst (v := 0) hx hb dX7_isByte_15 (by decide) ?_
      exact ret ((0 : Int32)) (Option.some.inj h) _ _ _ _ _ (fun _ => 0) rfl rfl hP hD hS dX7_isByte_16
    · replace h := if_f h c2
      refine lv_iconst (v := 1) hx hb dX7_isByte_11 (by decide) ?_
      refine lv_goto (tgt := 16) hx hb dX7_isByte_12 (by decide) ?_
      exact ret ((1 : Int32)) (Option.some.inj h) _ _ _ _ _ (fun _ => 0) rfl rfl hP hD hS dX7_isByte_16
def f_X7_isBlockLength (i0 : Int32) : Option (Int32) :=
  if i0 < (1 : Int32) then (
  some ((0 : Int32)))
  else
  if (64 : Int32) < i0 then (
  some ((0 : Int32)))
  else
  some ((1 : Int32))
abbrev w_rm_X7_isBlockLength : Room := { frames := 0, cells := 0, slots := 0, locals := 0 }
set_option maxHeartbeats 4000000 in
set_option maxRecDepth 100000 in
theorem c_X7_isBlockLength (l : Launch) (G : va_G) (E : ClassId × ClassId × ClassId) (i0 : Int32) (r : Int32) (h : f_X7_isBlockLength i0 = some (r)) : MI l G E yX7_isBlockLength cX7_isBlockLength 1 .boolean w_rm_X7_isBlockLength [.int i0] [] r (fun a => []) 0 0 := by
  refine MI_of (by decide) (Nat.le_of_ble_eq_true rfl) ?_
  intro p e s m args below meth c A Q hx hb hml hown hts hK hA hP hD hS ret ls hl
  replace ret : ∀ (R : (Int32)), R = (r) → ∀ (H : Heap) (locs : List Loc) (pc : Nat) (ls : Array Slot) (v : Int32) (a : Nat → Nat), v = R → narrow .boolean (.int v) = .int v → va_P G vwCl [] H → va_D A [] → va_S A s.heap H locs → decode cX7_isBlockLength pc = .ok (.ireturn, 1) → W p l e w_rm_X7_isBlockLength s m args below meth c H locs 0 0 Q (F0 m pc ls [.int v]) := by
    intro R hR
    subst hR
    exact ret
  replace hl : lv_has ls 1 [(0, .int i0)] := hl
  unfold f_X7_isBlockLength at h
  refine lv_iload_n hx hb dX7_isBlockLength_0 rfl (lv_at hl 0 rfl) ?_
  refine lv_iconst (v := 1) hx hb dX7_isBlockLength_1 (by decide) ?_
  refine lv_icmp_lt (tgt := 15) hx hb dX7_isBlockLength_2 (by decide) (fun c1 => ?_) (fun c1 => ?_)
  · replace h := if_t h c1
    refine lv_iconst (v := 0) hx hb dX7_isBlockLength_15 (by decide) ?_
    exact ret ((0 : Int32)) (Option.some.inj h) _ _ _ _ _ (fun _ => 0) rfl rfl hP hD hS dX7_isBlockLength_16
  · replace h := if_f h c1
    refine lv_iload_n hx hb dX7_isBlockLength_5 rfl (lv_at hl 0 rfl) ?_
    refine lv_bipush (v := 64) hx hb dX7_isBlockLength_6 (by decide) ?_
    refine lv_icmp_gt (tgt := 15) hx hb dX7_isBlockLength_8 (by decide) (fun c2 => ?_) (fun c2 => ?_)
    · replace h := if_t h c2
      refine lv_iconst (v := 0) hx hb dX7_isBlockLength_15 (by decide) ?_
      exact ret ((0 : Int32)) (Option.some.inj h) _ _ _ _ _ (fun _ => 0) rfl rfl hP hD hS dX7_isBlockLength_16
    · replace h := if_f h c2
      refine lv_iconst (v := 1) hx hb dX7_isBlockLength_11 (by decide) ?_
      refine lv_goto (tgt := 16) hx hb dX7_isBlockLength_12 (by decide) ?_
      exact ret ((1 : Int32)) (Option.some.inj h) _ _ _ _ _ (fun _ => 0) rfl rfl hP hD hS dX7_isBlockLength_16
