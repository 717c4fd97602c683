def f_X0_init  : Option Unit :=
  some ()
abbrev w_rm_X0_init : Room := { frames := 1, cells := 1, slots := 1200, locals := 13 }
set_option maxHeartbeats 4000000 in
set_option maxRecDepth 100000 in
theorem c_X0_init (l : Launch) (G : va_G) (E : ClassId × ClassId × ClassId) (hp0 : Nat)  (h : f_X0_init = some ()) : MV l G E yX0_init cX0_init 1 w_rm_X0_init [.ref hp0] [(hp0, .inr (0, [.null, .int (0 : Int32), .int (0 : Int32)]))] (fun a => [(hp0, .inr (0, [.ref (a 0), .int (0 : Int32), .int (0 : Int32)])), ((a 0), .inl (E.1, 1200, .inl (fun _ => 0)))]) 1 1200 := by
  refine MV_of (by decide) (Nat.le_of_ble_eq_true rfl) ?_
  intro p e s m args below meth c A Q hx hb hml hown hin hts hK hA hP hD hS ret ls hl
  replace hin := hin rfl
  replace hl : lv_has ls 1 [(0, .ref hp0)] := hl
  unfold f_X0_init at h
  refine lv_aload_n hx hb dX0_init_0 rfl (lv_at hl 0 rfl) ?_
  refine W.objInit hx hb hown (hts _ wd_0411bd6f) (hts _ wd_449f795d) (hts _ wd_679af842) rfl (by rw [hml]; exact hl.1) rfl dX0_init_1 (Nat.le_of_ble_eq_true rfl) (Nat.le_of_ble_eq_true rfl) ?_
  refine W.eq (g2 := F0 m 4 ls []) rfl ?_
  refine lv_aload_n hx hb dX0_init_4 rfl (lv_at hl 0 rfl) ?_
  refine lv_sipush (v := 1200) hx hb dX0_init_5 (by decide) ?_
  refine va_newa (atype := .int) (ty := .int) (N' := 1200) (a0 := (1200, .inl (fun _ => 0))) hx hb (hts _ wd_c201d5c8) rfl hK.1 hP hD hS hA (fun _ => rfl) (by decide) (by decide) (by decide) (Nat.le_of_ble_eq_true rfl) (Nat.le_of_ble_eq_true rfl) dX0_init_8 (fun q1 cA H hK9 hP hD hS => ?_)
  obtain rfl := ct_int hK hK9
  have hP : va_P G vwCl [(hp0, .inr (0, [.null, .int (0 : Int32), .int (0 : Int32)])), (q1, .inl (E.1, 1200, .inl (fun _ => 0)))] H := hP
  have hD : va_D A [(hp0, .inr (0, [.null, .int (0 : Int32), .int (0 : Int32)])), (q1, .inl (E.1, 1200, .inl (fun _ => 0)))] := hD
  refine putFF (D := G) (ci := 0) (v := .ref q1) (ty := .array .int) (C := RX0) (T := TX0) (N := 3) hx hb hts inG_X0 tyX0 tyX0_ok nmX0 hown hK.1 hP hD hS 0 rfl rfl 0 (by decide) tf_X0_0 (hts _ wd_f153588a) hin pd_AI rfl rfl (Nat.le_of_ble_eq_true rfl) dX0_init_10 (fun H locs hP hD hS => ?_)
  have hP : va_P G vwCl [(hp0, .inr (0, [.ref q1, .int (0 : Int32), .int (0 : Int32)])), (q1, .inl (E.1, 1200, .inl (fun _ => 0)))] H := hP
  have hD : va_D A [(hp0, .inr (0, [.ref q1, .int (0 : Int32), .int (0 : Int32)])), (q1, .inl (E.1, 1200, .inl (fun _ => 0)))] := hD
  refine lv_aload_n hx hb dX0_init_13 rfl (lv_at hl 0 rfl) ?_
  refine lv_iconst (v := 0) hx hb dX0_init_14 (by decide) ?_
  refine putF (D := G) (ci := 0) (v := .int (0 : Int32)) (ty := .int) (C := RX0) (T := TX0) (N := 3) hx hb hts inG_X0 tyX0 tyX0_ok nmX0 hown hK.1 hP hD hS 0 rfl rfl 1 (by decide) tf_X0_1 (hts _ wd_3b184e6c) pd_I rfl rfl (Nat.le_of_ble_eq_true rfl) dX0_init_15 (fun H locs hP hD hS => ?_)
  have hP : va_P G vwCl [(hp0, .inr (0, [.ref q1, .int (0 : Int32), .int (0 : Int32)])), (q1, .inl (E.1, 1200, .inl (fun _ => 0)))] H := hP
  have hD : va_D A [(hp0, .inr (0, [.ref q1, .int (0 : Int32), .int (0 : Int32)])), (q1, .inl (E.1, 1200, .inl (fun _ => 0)))] := hD
  refine lv_aload_n hx hb dX0_init_18 rfl (lv_at hl 0 rfl) ?_
  refine lv_iconst (v := 0) hx hb dX0_init_19 (by decide) ?_
  refine putF (D := G) (ci := 0) (v := .int (0 : Int32)) (ty := .boolean) (C := RX0) (T := TX0) (N := 3) hx hb hts inG_X0 tyX0 tyX0_ok nmX0 hown hK.1 hP hD hS 0 rfl rfl 2 (by decide) tf_X0_2 (hts _ wd_15845deb) pd_Z rfl rfl (Nat.le_of_ble_eq_true rfl) dX0_init_20 (fun H locs hP hD hS => ?_)
  have hP : va_P G vwCl [(hp0, .inr (0, [.ref q1, .int (0 : Int32), .int (0 : Int32)])), (q1, .inl (E.1, 1200, .inl (fun _ => 0)))] H := hP
  have hD : va_D A [(hp0, .inr (0, [.ref q1, .int (0 : Int32), .int (0 : Int32)])), (q1, .inl (E.1, 1200, .inl (fun _ => 0)))] := hD
  exact ret _ _ _ _ (fun k => [q1].getD k 0) hP hD hS dX0_init_23
def f_X0_clear  : Option (Int32 × Int32) :=
  some ((0 : Int32), (0 : Int32))
abbrev w_rm_X0_clear : Room := { frames := 0, cells := 0, slots := 0, locals := 0 }
set_option maxHeartbeats 4000000 in
set_option maxRecDepth 100000 in
theorem c_X0_clear (l : Launch) (G : va_G) (E : ClassId × ClassId × ClassId) (hp0 : Nat) (hp0_bytes : Nat) (p0_size : Int32) (p0_overflowed : Int32) (o0 : Int32) (o1 : Int32) (h : f_X0_clear = some (o0, o1)) : MV l G E yX0_clear cX0_clear 1 w_rm_X0_clear [.ref hp0] [(hp0, .inr (0, [.ref hp0_bytes, .int p0_size, .int p0_overflowed]))] (fun a => [(hp0, .inr (0, [.ref hp0_bytes, .int o0, .int o1]))]) 0 0 := by
  refine MV_of (by decide) (Nat.le_of_ble_eq_true rfl) ?_
  intro p e s m args below meth c A Q hx hb hml hown hin hts hK hA hP hD hS ret ls hl
  replace ret : ∀ (R : (Int32 × Int32)), R = (o0, o1) → ∀ (H : Heap) (locs : List Loc) (pc : Nat) (ls : Array Slot) (a : Nat → Nat), va_P G vwCl [(hp0, .inr (0, [.ref hp0_bytes, .int R.1, .int R.2]))] H → va_D A [(hp0, .inr (0, [.ref hp0_bytes, .int R.1, .int R.2]))] → va_S A s.heap H locs → decode cX0_clear pc = .ok (.return_, 1) → W p l e w_rm_X0_clear s m args below meth c H locs 0 0 Q (F0 m pc ls []) := by
    intro R hR
    subst hR
    exact ret
  replace hl : lv_has ls 1 [(0, .ref hp0)] := hl
  unfold f_X0_clear at h
  refine lv_aload_n hx hb dX0_clear_0 rfl (lv_at hl 0 rfl) ?_
  refine lv_iconst (v := 0) hx hb dX0_clear_1 (by decide) ?_
  refine putF (D := G) (ci := 0) (v := .int (0 : Int32)) (ty := .int) (C := RX0) (T := TX0) (N := 3) hx hb hts inG_X0 tyX0 tyX0_ok nmX0 hown hK.1 hP hD hS 0 rfl rfl 1 (by decide) tf_X0_1 (hts _ wd_3b184e6c) pd_I rfl rfl (Nat.le_of_ble_eq_true rfl) dX0_clear_2 (fun H locs hP hD hS => ?_)
  have hP : va_P G vwCl [(hp0, .inr (0, [.ref hp0_bytes, .int (0 : Int32), .int p0_overflowed]))] H := hP
  have hD : va_D A [(hp0, .inr (0, [.ref hp0_bytes, .int (0 : Int32), .int p0_overflowed]))] := hD
  refine lv_aload_n hx hb dX0_clear_5 rfl (lv_at hl 0 rfl) ?_
  refine lv_iconst (v := 0) hx hb dX0_clear_6 (by decide) ?_
  refine putF (D := G) (ci := 0) (v := .int (0 : Int32)) (ty := .boolean) (C := RX0) (T := TX0) (N := 3) hx hb hts inG_X0 tyX0 tyX0_ok nmX0 hown hK.1 hP hD hS 0 rfl rfl 2 (by decide) tf_X0_2 (hts _ wd_15845deb) pd_Z rfl rfl (Nat.le_of_ble_eq_true rfl) dX0_clear_7 (fun H locs hP hD hS => ?_)
  have hP : va_P G vwCl [(hp0, .inr (0, [.ref hp0_bytes, .int (0 : Int32), .int (0 : Int32)]))] H := hP
  have hD : va_D A [(hp0, .inr (0, [.ref hp0_bytes, .int (0 : Int32), .int (0 : Int32)]))] := hD
  exact ret ((0 : Int32), (0 : Int32)) (Option.some.inj h) _ _ _ _ (fun _ => 0) hP hD hS dX0_clear_10
def f_X0_become (p1_size : Int32) (p1_bytes : (Nat → Int32)) (p0_bytes : (Nat → Int32)) : Option ((Nat → Int32) × Int32) :=
  bn (va_cpy p1_bytes p0_bytes (0 : Int32).toNatClampNeg (0 : Int32).toNatClampNeg (1200 : Int32).toNatClampNeg) fun m1 =>
  some (m1, p1_size)
abbrev w_rm_X0_become : Room := { frames := 1, cells := 0, slots := 0, locals := 64 }
set_option maxHeartbeats 4000000 in
set_option maxRecDepth 100000 in
theorem c_X0_become (l : Launch) (G : va_G) (E : ClassId × ClassId × ClassId) (hp1 : Nat) (hp1_bytes : Nat) (p1_size : Int32) (p1_overflowed : Int32) (hp0 : Nat) (hp0_bytes : Nat) (p0_size : Int32) (p0_overflowed : Int32) (p1_bytes : (Nat → Int32)) (p0_bytes : (Nat → Int32)) (o0 : (Nat → Int32)) (o1 : Int32) (h : f_X0_become p1_size p1_bytes p0_bytes = some (o0, o1)) : MV l G E yX0_become cX0_become 2 w_rm_X0_become [.ref hp0, .ref hp1] [(hp1, .inr (0, [.ref hp1_bytes, .int p1_size, .int p1_overflowed])), (hp0, .inr (0, [.ref hp0_bytes, .int p0_size, .int p0_overflowed])), (hp1_bytes, .inl (E.1, 1200, .inl p1_bytes)), (hp0_bytes, .inl (E.1, 1200, .inl p0_bytes))] (fun a => [(hp1, .inr (0, [.ref hp1_bytes, .int p1_size, .int p1_overflowed])), (hp0, .inr (0, [.ref hp0_bytes, .int o1, .int p0_overflowed])), (hp1_bytes, .inl (E.1, 1200, .inl p1_bytes)), (hp0_bytes, .inl (E.1, 1200, .inl o0))]) 0 0 := by
  refine MV_of (by decide) (Nat.le_of_ble_eq_true rfl) ?_
  intro p e s m args below meth c A Q hx hb hml hown hin hts hK hA hP hD hS ret ls hl
  replace ret : ∀ (R : ((Nat → Int32) × Int32)), R = (o0, o1) → ∀ (H : Heap) (locs : List Loc) (pc : Nat) (ls : Array Slot) (a : Nat → Nat), va_P G vwCl [(hp1, .inr (0, [.ref hp1_bytes, .int p1_size, .int p1_overflowed])), (hp0, .inr (0, [.ref hp0_bytes, .int R.2, .int p0_overflowed])), (hp1_bytes, .inl (E.1, 1200, .inl p1_bytes)), (hp0_bytes, .inl (E.1, 1200, .inl R.1))] H → va_D A [(hp1, .inr (0, [.ref hp1_bytes, .int p1_size, .int p1_overflowed])), (hp0, .inr (0, [.ref hp0_bytes, .int R.2, .int p0_overflowed])), (hp1_bytes, .inl (E.1, 1200, .inl p1_bytes)), (hp0_bytes, .inl (E.1, 1200, .inl R.1))] → va_S A s.heap H locs → decode cX0_become pc = .ok (.return_, 1) → W p l e w_rm_X0_become s m args below meth c H locs 0 0 Q (F0 m pc ls []) := by
    intro R hR
    subst hR
    exact ret
  replace hl : lv_has ls 2 [(0, .ref hp0), (1, .ref hp1)] := hl
  unfold f_X0_become at h
  refine lv_aload_n hx hb dX0_become_0 rfl (lv_at hl 1 rfl) ?_
  refine getF (D := G) (ci := 0) (v := .ref hp1_bytes) (C := RX0) (T := TX0) (N := 3) hx hb hts inG_X0 hown hK.1 hP 0 rfl rfl 0 (by decide) tf_X0_0 (hts _ wd_f153588a) rfl dX0_become_1 ?_
  refine lv_iconst (v := 0) hx hb dX0_become_4 (by decide) ?_
  refine lv_aload_n hx hb dX0_become_5 rfl (lv_at hl 0 rfl) ?_
  refine getF (D := G) (ci := 0) (v := .ref hp0_bytes) (C := RX0) (T := TX0) (N := 3) hx hb hts inG_X0 hown hK.1 hP 1 rfl rfl 0 (by decide) tf_X0_0 (hts _ wd_f153588a) rfl dX0_become_6 ?_
  refine lv_iconst (v := 0) hx hb dX0_become_9 (by decide) ?_
  refine lv_sipush (v := 1200) hx hb dX0_become_10 (by decide) ?_
  refine va_copyi hx hb (hml.trans hl.1.symm) hown (hts _ wd_093d6d24) (hts _ wd_b8e2a615) (hts _ wd_0f5f9aba) (hts _ wd_4e16621c) hK.1 hP hD hS 2 3 0 0 rfl rfl rfl rfl rfl (by decide) (by decide) (by decide) (by decide) (by decide) (fun _ _ => rfl) (Nat.le_of_ble_eq_true rfl) (by decide +kernel) dX0_become_13 (fun H locs hP hD hS => ?_)
  have hP : va_P G vwCl [(hp1, .inr (0, [.ref hp1_bytes, .int p1_size, .int p1_overflowed])), (hp0, .inr (0, [.ref hp0_bytes, .int p0_size, .int p0_overflowed])), (hp1_bytes, .inl (E.1, 1200, .inl p1_bytes)), (hp0_bytes, .inl (E.1, 1200, .inl (va_cpy p1_bytes p0_bytes (0 : Int32).toNatClampNeg (0 : Int32).toNatClampNeg (1200 : Int32).toNatClampNeg)))] H := hP
  have hD : va_D A [(hp1, .inr (0, [.ref hp1_bytes, .int p1_size, .int p1_overflowed])), (hp0, .inr (0, [.ref hp0_bytes, .int p0_size, .int p0_overflowed])), (hp1_bytes, .inl (E.1, 1200, .inl p1_bytes)), (hp0_bytes, .inl (E.1, 1200, .inl (va_cpy p1_bytes p0_bytes (0 : Int32).toNatClampNeg (0 : Int32).toNatClampNeg (1200 : Int32).toNatClampNeg)))] := hD
  obtain ⟨m1, em1⟩ : ∃ y : Nat → Int32, y = va_cpy p1_bytes p0_bytes (0 : Int32).toNatClampNeg (0 : Int32).toNatClampNeg (1200 : Int32).toNatClampNeg := ⟨_, rfl⟩
  replace h := bn_t h em1
  rw [← em1] at hP hD
  refine lv_aload_n hx hb dX0_become_16 rfl (lv_at hl 0 rfl) ?_
  refine lv_aload_n hx hb dX0_become_17 rfl (lv_at hl 1 rfl) ?_
  refine getF (D := G) (ci := 0) (v := .int p1_size) (C := RX0) (T := TX0) (N := 3) hx hb hts inG_X0 hown hK.1 hP 0 rfl rfl 1 (by decide) tf_X0_1 (hts _ wd_3b184e6c) rfl dX0_become_18 ?_
  refine putF (D := G) (ci := 0) (v := .int p1_size) (ty := .int) (C := RX0) (T := TX0) (N := 3) hx hb hts inG_X0 tyX0 tyX0_ok nmX0 hown hK.1 hP hD hS 1 rfl rfl 1 (by decide) tf_X0_1 (hts _ wd_3b184e6c) pd_I rfl rfl (Nat.le_of_ble_eq_true rfl) dX0_become_21 (fun H locs hP hD hS => ?_)
  have hP : va_P G vwCl [(hp1, .inr (0, [.ref hp1_bytes, .int p1_size, .int p1_overflowed])), (hp0, .inr (0, [.ref hp0_bytes, .int p1_size, .int p0_overflowed])), (hp1_bytes, .inl (E.1, 1200, .inl p1_bytes)), (hp0_bytes, .inl (E.1, 1200, .inl m1))] H := hP
  have hD : va_D A [(hp1, .inr (0, [.ref hp1_bytes, .int p1_size, .int p1_overflowed])), (hp0, .inr (0, [.ref hp0_bytes, .int p1_size, .int p0_overflowed])), (hp1_bytes, .inl (E.1, 1200, .inl p1_bytes)), (hp0_bytes, .inl (E.1, 1200, .inl m1))] := hD
  exact ret (m1, p1_size) (Option.some.inj h) _ _ _ _ (fun _ => 0) hP hD hS dX0_become_24
def f_X0_holds (i1 : Int32) (j2 : Int64) (p0_size : Int32) : Option (Int32) :=
  if i1 < 0 then (
  some ((0 : Int32)))
  else
  if (lg_cmp j2 (0 : Int64)) < 0 then (
  some ((0 : Int32)))
  else
  if 0 < (lg_cmp (i1.toInt64 + j2) p0_size.toInt64) then (
  some ((0 : Int32)))
  else
  some ((1 : Int32))
abbrev w_rm_X0_holds : Room := { frames := 0, cells := 0, slots := 0, locals := 0 }
set_option maxHeartbeats 4000000 in
set_option maxRecDepth 100000 in
theorem c_X0_holds (l : Launch) (G : va_G) (E : ClassId × ClassId × ClassId) (hp0 : Nat) (hp0_bytes : Nat) (p0_size : Int32) (p0_overflowed : Int32) (i1 : Int32) (j2 : Int64) (r : Int32) (h : f_X0_holds i1 j2 p0_size = some (r)) : MI l G E yX0_holds cX0_holds 4 .boolean w_rm_X0_holds [.ref hp0, .int i1, .long j2] [(hp0, .inr (0, [.ref hp0_bytes, .int p0_size, .int p0_overflowed]))] r (fun a => [(hp0, .inr (0, [.ref hp0_bytes, .int p0_size, .int p0_overflowed]))]) 0 0 := by
  refine MI_of (by decide) (Nat.le_of_ble_eq_true rfl) ?_
  intro p e s m args below meth c A Q hx hb hml hown hts hK hA hP hD hS ret ls hl
  replace ret : ∀ (R : (Int32)), R = (r) → ∀ (H : Heap) (locs : List Loc) (pc : Nat) (ls : Array Slot) (v : Int32) (a : Nat → Nat), v = R → narrow .boolean (.int v) = .int v → va_P G vwCl [(hp0, .inr (0, [.ref hp0_bytes, .int p0_size, .int p0_overflowed]))] H → va_D A [(hp0, .inr (0, [.ref hp0_bytes, .int p0_size, .int p0_overflowed]))] → va_S A s.heap H locs → decode cX0_holds pc = .ok (.ireturn, 1) → W p l e w_rm_X0_holds s m args below meth c H locs 0 0 Q (F0 m pc ls [.int v]) := by
    intro R hR
    subst hR
    exact ret
  replace hl : lv_has ls 4 [(0, .ref hp0), (1, .int i1), (2, .long j2)] := hl
  unfold f_X0_holds at h
  refine lv_iload_n hx hb dX0_holds_0 rfl (lv_at hl 1 rfl) ?_
  refine lv_if_lt (tgt := 27) hx hb dX0_holds_1 (by decide) (fun c1 => ?_) (fun c1 => ?_)
  · replace h := if_t h c1
    refine lv_iconst (v := 0) hx hb dX0_holds_27 (by decide) ?_
    exact ret ((0 : Int32)) (Option.some.inj h) _ _ _ _ _ (fun _ => 0) rfl rfl hP hD hS dX0_holds_28
  · replace h := if_f h c1
    refine lv_lload_n hx hb dX0_holds_4 rfl (lv_at hl 2 rfl) ?_
    refine lv_lconst (v := 0) hx hb dX0_holds_5 (by decide) ?_
    refine W.lcmp hx hb dX0_holds_6 ?_
    refine lv_if_lt (tgt := 27) hx hb dX0_holds_7 (by decide) (fun c2 => ?_) (fun c2 => ?_)
    · replace h := if_t h c2
      refine lv_iconst (v := 0) hx hb dX0_holds_27 (by decide) ?_
      exact ret ((0 : Int32)) (Option.some.inj h) _ _ _ _ _ (fun _ => 0) rfl rfl hP hD hS dX0_holds_28
    · replace h := if_f h c2
      refine lv_iload_n hx hb dX0_holds_10 rfl (lv_at hl 1 rfl) ?_
      refine lv_i2l hx hb dX0_holds_11 rfl ?_
      refine lv_lload_n hx hb dX0_holds_12 rfl (lv_at hl 2 rfl) ?_
      refine lv_ladd hx hb dX0_holds_13 ?_
      refine lv_aload_n hx hb dX0_holds_14 rfl (lv_at hl 0 rfl) ?_
      refine getF (D := G) (ci := 0) (v := .int p0_size) (C := RX0) (T := TX0) (N := 3) hx hb hts inG_X0 hown hK.1 hP 0 rfl rfl 1 (by decide) tf_X0_1 (hts _ wd_3b184e6c) rfl dX0_holds_15 ?_
      refine lv_i2l hx hb dX0_holds_18 rfl ?_
      refine W.lcmp hx hb dX0_holds_19 ?_
      refine lv_if_gt (tgt := 27) hx hb dX0_holds_20 (by decide) (fun c3 => ?_) (fun c3 => ?_)
      · replace h := if_t h c3
        refine lv_iconst (v := 0) hx hb dX0_holds_27 (by decide) ?_
        exact ret ((0 : Int32)) (Option.some.inj h) _ _ _ _ _ (fun _ => 0) rfl rfl hP hD hS dX0_holds_28
      · replace h := if_f h c3
        refine lv_iconst (v := 1) hx hb dX0_holds_23 (by decide) ?_
        refine lv_goto (tgt := 28) hx hb dX0_holds_24 (by decide) ?_
        exact ret ((1 : Int32)) (Option.some.inj h) _ _ _ _ _ (fun _ => 0) rfl rfl hP hD hS dX0_holds_28
def f_X0_byteAt (i1 : Int32) (p0_bytes : (Nat → Int32)) : Option (Int32) :=
  if i1 < 0 then (
  some ((0 : Int32)))
  else
  if (1200 : Int32) ≤ i1 then (
  some ((0 : Int32)))
  else
  gin i1 1200 <|
  some (p0_bytes i1.toNatClampNeg)
abbrev w_rm_X0_byteAt : Room := { frames := 0, cells := 0, slots := 0, locals := 0 }
set_option maxHeartbeats 4000000 in
set_option maxRecDepth 100000 in
theorem c_X0_byteAt (l : Launch) (G : va_G) (E : ClassId × ClassId × ClassId) (hp0 : Nat) (hp0_bytes : Nat) (p0_size : Int32) (p0_overflowed : Int32) (p0_bytes : (Nat → Int32)) (i1 : Int32) (r : Int32) (h : f_X0_byteAt i1 p0_bytes = some (r)) : MI l G E yX0_byteAt cX0_byteAt 2 .int w_rm_X0_byteAt [.ref hp0, .int i1] [(hp0, .inr (0, [.ref hp0_bytes, .int p0_size, .int p0_overflowed])), (hp0_bytes, .inl (E.1, 1200, .inl p0_bytes))] r (fun a => [(hp0, .inr (0, [.ref hp0_bytes, .int p0_size, .int p0_overflowed])), (hp0_bytes, .inl (E.1, 1200, .inl p0_bytes))]) 0 0 := by
  refine MI_of (by decide) (Nat.le_of_ble_eq_true rfl) ?_
  intro p e s m args below meth c A Q hx hb hml hown hts hK hA hP hD hS ret ls hl
  replace ret : ∀ (R : (Int32)), R = (r) → ∀ (H : Heap) (locs : List Loc) (pc : Nat) (ls : Array Slot) (v : Int32) (a : Nat → Nat), v = R → narrow .int (.int v) = .int v → va_P G vwCl [(hp0, .inr (0, [.ref hp0_bytes, .int p0_size, .int p0_overflowed])), (hp0_bytes, .inl (E.1, 1200, .inl p0_bytes))] H → va_D A [(hp0, .inr (0, [.ref hp0_bytes, .int p0_size, .int p0_overflowed])), (hp0_bytes, .inl (E.1, 1200, .inl p0_bytes))] → va_S A s.heap H locs → decode cX0_byteAt pc = .ok (.ireturn, 1) → W p l e w_rm_X0_byteAt s m args below meth c H locs 0 0 Q (F0 m pc ls [.int v]) := by
    intro R hR
    subst hR
    exact ret
  replace hl : lv_has ls 2 [(0, .ref hp0), (1, .int i1)] := hl
  unfold f_X0_byteAt at h
  refine lv_iload_n hx hb dX0_byteAt_0 rfl (lv_at hl 1 rfl) ?_
  refine lv_if_lt (tgt := 20) hx hb dX0_byteAt_1 (by decide) (fun c1 => ?_) (fun c1 => ?_)
  · replace h := if_t h c1
    refine lv_iconst (v := 0) hx hb dX0_byteAt_20 (by decide) ?_
    exact ret ((0 : Int32)) (Option.some.inj h) _ _ _ _ _ (fun _ => 0) rfl rfl hP hD hS dX0_byteAt_21
  · replace h := if_f h c1
    refine lv_iload_n hx hb dX0_byteAt_4 rfl (lv_at hl 1 rfl) ?_
    refine lv_sipush (v := 1200) hx hb dX0_byteAt_5 (by decide) ?_
    refine lv_icmp_ge (tgt := 20) hx hb dX0_byteAt_8 (by decide) (fun c2 => ?_) (fun c2 => ?_)
    · replace h := if_t h c2
      refine lv_iconst (v := 0) hx hb dX0_byteAt_20 (by decide) ?_
      exact ret ((0 : Int32)) (Option.some.inj h) _ _ _ _ _ (fun _ => 0) rfl rfl hP hD hS dX0_byteAt_21
    · replace h := if_f h c2
      refine lv_aload_n hx hb dX0_byteAt_11 rfl (lv_at hl 0 rfl) ?_
      refine getF (D := G) (ci := 0) (v := .ref hp0_bytes) (C := RX0) (T := TX0) (N := 3) hx hb hts inG_X0 hown hK.1 hP 0 rfl rfl 0 (by decide) tf_X0_0 (hts _ wd_f153588a) rfl dX0_byteAt_12 ?_
      refine lv_iload_n hx hb dX0_byteAt_15 rfl (lv_at hl 1 rfl) ?_
      obtain ⟨g3, h⟩ := gin_t h
      refine va_iald hx hb hK.1 hP 1 0 rfl rfl g3 dX0_byteAt_16 ?_
      refine lv_goto (tgt := 21) hx hb dX0_byteAt_17 (by decide) ?_
      exact ret (p0_bytes i1.toNatClampNeg) (Option.some.inj h) _ _ _ _ _ (fun _ => 0) rfl rfl hP hD hS dX0_byteAt_21
def f_X0_fourAt (i1 : Int32) (p0_bytes : (Nat → Int32)) : Option (Int32) :=
  if i1 < 0 then (
  some ((0 : Int32)))
  else
  if i1 ≤ (1196 : Int32) then (
  gin i1 1200 <|
  gin (i1 + (1 : Int32)) 1200 <|
  gin (i1 + (2 : Int32)) 1200 <|
  gin (i1 + (3 : Int32)) 1200 <|
  some (((((p0_bytes i1.toNatClampNeg) <<< ((24 : Int32) &&& 31)) ||| ((p0_bytes (i1 + (1 : Int32)).toNatClampNeg) <<< ((16 : Int32) &&& 31))) ||| ((p0_bytes (i1 + (2 : Int32)).toNatClampNeg) <<< ((8 : Int32) &&& 31))) ||| (p0_bytes (i1 + (3 : Int32)).toNatClampNeg)))
  else
  some ((0 : Int32))
abbrev w_rm_X0_fourAt : Room := { frames := 0, cells := 0, slots := 0, locals := 0 }
set_option maxHeartbeats 4000000 in
set_option maxRecDepth 100000 in
theorem c_X0_fourAt (l : Launch) (G : va_G) (E : ClassId × ClassId × ClassId) (hp0 : Nat) (hp0_bytes : Nat) (p0_size : Int32) (p0_overflowed : Int32) (p0_bytes : (Nat → Int32)) (i1 : Int32) (r : Int32) (h : f_X0_fourAt i1 p0_bytes = some (r)) : MI l G E yX0_fourAt cX0_fourAt 2 .int w_rm_X0_fourAt [.ref hp0, .int i1] [(hp0, .inr (0, [.ref hp0_bytes, .int p0_size, .int p0_overflowed])), (hp0_bytes, .inl (E.1, 1200, .inl p0_bytes))] r (fun a => [(hp0, .inr (0, [.ref hp0_bytes, .int p0_size, .int p0_overflowed])), (hp0_bytes, .inl (E.1, 1200, .inl p0_bytes))]) 0 0 := by
  refine MI_of (by decide) (Nat.le_of_ble_eq_true rfl) ?_
  intro p e s m args below meth c A Q hx hb hml hown hts hK hA hP hD hS ret ls hl
  replace ret : ∀ (R : (Int32)), R = (r) → ∀ (H : Heap) (locs : List Loc) (pc : Nat) (ls : Array Slot) (v : Int32) (a : Nat → Nat), v = R → narrow .int (.int v) = .int v → va_P G vwCl [(hp0, .inr (0, [.ref hp0_bytes, .int p0_size, .int p0_overflowed])), (hp0_bytes, .inl (E.1, 1200, .inl p0_bytes))] H → va_D A [(hp0, .inr (0, [.ref hp0_bytes, .int p0_size, .int p0_overflowed])), (hp0_bytes, .inl (E.1, 1200, .inl p0_bytes))] → va_S A s.heap H locs → decode cX0_fourAt pc = .ok (.ireturn, 1) → W p l e w_rm_X0_fourAt s m args below meth c H locs 0 0 Q (F0 m pc ls [.int v]) := by
    intro R hR
    subst hR
    exact ret
  replace hl : lv_has ls 2 [(0, .ref hp0), (1, .int i1)] := hl
  unfold f_X0_fourAt at h
  refine lv_iload_n hx hb dX0_fourAt_0 rfl (lv_at hl 1 rfl) ?_
  refine lv_if_lt (tgt := 11) hx hb dX0_fourAt_1 (by decide) (fun c1 => ?_) (fun c1 => ?_)
  · replace h := if_t h c1
    refine lv_iconst (v := 0) hx hb dX0_fourAt_11 (by decide) ?_
    exact ret ((0 : Int32)) (Option.some.inj h) _ _ _ _ _ (fun _ => 0) rfl rfl hP hD hS dX0_fourAt_12
  · replace h := if_f h c1
    refine lv_iload_n hx hb dX0_fourAt_4 rfl (lv_at hl 1 rfl) ?_
    refine lv_sipush (v := 1196) hx hb dX0_fourAt_5 (by decide) ?_
    refine lv_icmp_le (tgt := 13) hx hb dX0_fourAt_8 (by decide) (fun c2 => ?_) (fun c2 => ?_)
    · replace h := if_t h c2
      refine lv_aload_n hx hb dX0_fourAt_13 rfl (lv_at hl 0 rfl) ?_
      refine getF (D := G) (ci := 0) (v := .ref hp0_bytes) (C := RX0) (T := TX0) (N := 3) hx hb hts inG_X0 hown hK.1 hP 0 rfl rfl 0 (by decide) tf_X0_0 (hts _ wd_f153588a) rfl dX0_fourAt_14 ?_
      refine lv_iload_n hx hb dX0_fourAt_17 rfl (lv_at hl 1 rfl) ?_
      obtain ⟨g3, h⟩ := gin_t h
      refine va_iald hx hb hK.1 hP 1 0 rfl rfl g3 dX0_fourAt_18 ?_
      refine lv_bipush (v := 24) hx hb dX0_fourAt_19 (by decide) ?_
      refine lv_ishl hx hb dX0_fourAt_21 ?_
      refine lv_aload_n hx hb dX0_fourAt_22 rfl (lv_at hl 0 rfl) ?_
      refine getF (D := G) (ci := 0) (v := .ref hp0_bytes) (C := RX0) (T := TX0) (N := 3) hx hb hts inG_X0 hown hK.1 hP 0 rfl rfl 0 (by decide) tf_X0_0 (hts _ wd_f153588a) rfl dX0_fourAt_23 ?_
      refine lv_iload_n hx hb dX0_fourAt_26 rfl (lv_at hl 1 rfl) ?_
      refine lv_iconst (v := 1) hx hb dX0_fourAt_27 (by decide) ?_
      refine lv_iadd hx hb dX0_fourAt_28 ?_
      obtain ⟨g4, h⟩ := gin_t h
      refine va_iald hx hb hK.1 hP 1 0 rfl rfl g4 dX0_fourAt_29 ?_
      refine lv_bipush (v := 16) hx hb dX0_fourAt_30 (by decide) ?_
      refine lv_ishl hx hb dX0_fourAt_32 ?_
      refine lv_ior hx hb dX0_fourAt_33 ?_
      refine lv_aload_n hx hb dX0_fourAt_34 rfl (lv_at hl 0 rfl) ?_
      refine getF (D := G) (ci := 0) (v := .ref hp0_bytes) (C := RX0) (T := TX0) (N := 3) hx hb hts inG_X0 hown hK.1 hP 0 rfl rfl 0 (by decide) tf_X0_0 (hts _ wd_f153588a) rfl dX0_fourAt_35 ?_
      refine lv_iload_n hx hb dX0_fourAt_38 rfl (lv_at hl 1 rfl) ?_
      refine lv_iconst (v := 2) hx hb dX0_fourAt_39 (by decide) ?_
      refine lv_iadd hx hb dX0_fourAt_40 ?_
      obtain ⟨g5, h⟩ := gin_t h
      refine va_iald hx hb hK.1 hP 1 0 rfl rfl g5 dX0_fourAt_41 ?_
      refine lv_bipush (v := 8) hx hb dX0_fourAt_42 (by decide) ?_
      refine lv_ishl hx hb dX0_fourAt_44 ?_
      refine lv_ior hx hb dX0_fourAt_45 ?_
      refine lv_aload_n hx hb dX0_fourAt_46 rfl (lv_at hl 0 rfl) ?_
      refine getF (D := G) (ci := 0) (v := .ref hp0_bytes) (C := RX0) (T := TX0) (N := 3) hx hb hts inG_X0 hown hK.1 hP 0 rfl rfl 0 (by decide) tf_X0_0 (hts _ wd_f153588a) rfl dX0_fourAt_47 ?_
      refine lv_iload_n hx hb dX0_fourAt_50 rfl (lv_at hl 1 rfl) ?_
      refine lv_iconst (v := 3) hx hb dX0_fourAt_51 (by decide) ?_
      refine lv_iadd hx hb dX0_fourAt_52 ?_
      obtain ⟨g6, h⟩ := gin_t h
      refine va_iald hx hb hK.1 hP 1 0 rfl rfl g6 dX0_fourAt_53 ?_
      refine lv_ior hx hb dX0_fourAt_54 ?_
      exact ret (((((p0_bytes i1.toNatClampNeg) <<< ((24 : Int32) &&& 31)) ||| ((p0_bytes (i1 + (1 : Int32)).toNatClampNeg) <<< ((16 : Int32) &&& 31))) ||| ((p0_bytes (i1 + (2 : Int32)).toNatClampNeg) <<< ((8 : Int32) &&& 31))) ||| (p0_bytes (i1 + (3 : Int32)).toNatClampNeg)) (Option.some.inj h) _ _ _ _ _ (fun _ => 0) rfl rfl hP hD hS dX0_fourAt_55
    · replace h := if_f h c2
      refine lv_iconst (v := 0) hx hb dX0_fourAt_11 (by decide) ?_
      exact ret ((0 : Int32)) (Option.some.inj h) _ _ _ _ _ (fun _ => 0) rfl rfl hP hD hS dX0_fourAt_12
def f_X0_setByte (i1 : Int32) (i2 : Int32) (p0_bytes : (Nat → Int32)) : Option ((Nat → Int32)) :=
  if i1 < 0 then (
  some (p0_bytes))
  else
  if (1200 : Int32) ≤ i1 then (
  some (p0_bytes))
  else
  gin i1 1200 <|
  bn (upd p0_bytes i1.toNatClampNeg i2) fun m4 =>
  some (m4)
abbrev w_rm_X0_setByte : Room := { frames := 0, cells := 0, slots := 0, locals := 0 }
set_option maxHeartbeats 4000000 in
set_option maxRecDepth 100000 in
theorem c_X0_setByte (l : Launch) (G : va_G) (E : ClassId × ClassId × ClassId) (hp0 : Nat) (hp0_bytes : Nat) (p0_size : Int32) (p0_overflowed : Int32) (p0_bytes : (Nat → Int32)) (i1 : Int32) (i2 : Int32) (o0 : (Nat → Int32)) (h : f_X0_setByte i1 i2 p0_bytes = some (o0)) : MV l G E yX0_setByte cX0_setByte 3 w_rm_X0_setByte [.ref hp0, .int i1, .int i2] [(hp0, .inr (0, [.ref hp0_bytes, .int p0_size, .int p0_overflowed])), (hp0_bytes, .inl (E.1, 1200, .inl p0_bytes))] (fun a => [(hp0, .inr (0, [.ref hp0_bytes, .int p0_size, .int p0_overflowed])), (hp0_bytes, .inl (E.1, 1200, .inl o0))]) 0 0 := by
  refine MV_of (by decide) (Nat.le_of_ble_eq_true rfl) ?_
  intro p e s m args below meth c A Q hx hb hml hown hin hts hK hA hP hD hS ret ls hl
  replace ret : ∀ (R : ((Nat → Int32))), R = (o0) → ∀ (H : Heap) (locs : List Loc) (pc : Nat) (ls : Array Slot) (a : Nat → Nat), va_P G vwCl [(hp0, .inr (0, [.ref hp0_bytes, .int p0_size, .int p0_overflowed])), (hp0_bytes, .inl (E.1, 1200, .inl R))] H → va_D A [(hp0, .inr (0, [.ref hp0_bytes, .int p0_size, .int p0_overflowed])), (hp0_bytes, .inl (E.1, 1200, .inl R))] → va_S A s.heap H locs → decode cX0_setByte pc = .ok (.return_, 1) → W p l e w_rm_X0_setByte s m args below meth c H locs 0 0 Q (F0 m pc ls []) := by
    intro R hR
    subst hR
    exact ret
  replace hl : lv_has ls 3 [(0, .ref hp0), (1, .int i1), (2, .int i2)] := hl
  unfold f_X0_setByte at h
  refine lv_iload_n hx hb dX0_setByte_0 rfl (lv_at hl 1 rfl) ?_
  refine lv_if_lt (tgt := 18) hx hb dX0_setByte_1 (by decide) (fun c1 => ?_) (fun c1 => ?_)
  · replace h := if_t h c1
    exact ret (p0_bytes) (Option.some.inj h) _ _ _ _ (fun _ => 0) hP hD hS dX0_setByte_18
  · replace h := if_f h c1
    refine lv_iload_n hx hb dX0_setByte_4 rfl (lv_at hl 1 rfl) ?_
    refine lv_sipush (v := 1200) hx hb dX0_setByte_5 (by decide) ?_
    refine lv_icmp_ge (tgt := 18) hx hb dX0_setByte_8 (by decide) (fun c2 => ?_) (fun c2 => ?_)
    · replace h := if_t h c2
      exact ret (p0_bytes) (Option.some.inj h) _ _ _ _ (fun _ => 0) hP hD hS dX0_setByte_18
    · replace h := if_f h c2
      refine lv_aload_n hx hb dX0_setByte_11 rfl (lv_at hl 0 rfl) ?_
      refine getF (D := G) (ci := 0) (v := .ref hp0_bytes) (C := RX0) (T := TX0) (N := 3) hx hb hts inG_X0 hown hK.1 hP 0 rfl rfl 0 (by decide) tf_X0_0 (hts _ wd_f153588a) rfl dX0_setByte_12 ?_
      refine lv_iload_n hx hb dX0_setByte_15 rfl (lv_at hl 1 rfl) ?_
      refine lv_iload_n hx hb dX0_setByte_16 rfl (lv_at hl 2 rfl) ?_
      obtain ⟨g3, h⟩ := gin_t h
      refine va_iast hx hb hK.1 hP hD hS 1 0 rfl rfl g3 dX0_setByte_17 (fun H locs hP hD hS => ?_)
      have hP : va_P G vwCl [(hp0, .inr (0, [.ref hp0_bytes, .int p0_size, .int p0_overflowed])), (hp0_bytes, .inl (E.1, 1200, .inl (upd p0_bytes i1.toNatClampNeg i2)))] H := hP
      have hD : va_D A [(hp0, .inr (0, [.ref hp0_bytes, .int p0_size, .int p0_overflowed])), (hp0_bytes, .inl (E.1, 1200, .inl (upd p0_bytes i1.toNatClampNeg i2)))] := hD
      obtain ⟨m4, em4⟩ : ∃ y : Nat → Int32, y = upd p0_bytes i1.toNatClampNeg i2 := ⟨_, rfl⟩
      replace h := bn_t h em4
      rw [← em4] at hP hD
      exact ret (m4) (Option.some.inj h) _ _ _ _ (fun _ => 0) hP hD hS dX0_setByte_18
def B_X0_setFour_2 (i1 : Int32) (i2 : Int32) (rec2 : (Nat → Int32) → Int32 → Option ((Nat → Int32))) (K33 : (Nat → Int32) → Int32 → Option ((Nat → Int32))) (z1 : (Nat → Int32)) (z2 : Int32) : Option ((Nat → Int32)) :=
  if (4 : Int32) ≤ z2 then (
  K33 z1 z2)
  else
  bd (f_X0_setByte (i1 + z2) ((i_ushr i2 ((24 : Int32) - ((8 : Int32) * z2))) &&& (255 : Int32)) z1) fun u4 =>
  bn (z2 + 1) fun x6 =>
  rec2 u4 x6
def L_X0_setFour_2 (i1 : Int32) (i2 : Int32) (K33 : (Nat → Int32) → Int32 → Option ((Nat → Int32))) : Nat → (Nat → Int32) → Int32 → Option ((Nat → Int32))
    | 0, _, _ => none
    | n + 1, z1, z2 => B_X0_setFour_2 i1 i2 (fun z1 z2 => L_X0_setFour_2 i1 i2 K33 n z1 z2) K33 z1 z2
def f_X0_setFour (N : Nat) (i1 : Int32) (i2 : Int32) (p0_bytes : (Nat → Int32)) : Option ((Nat → Int32)) :=
  L_X0_setFour_2 i1 i2 
  (fun z1 z2 =>
  some (z1)) N p0_bytes (0 : Int32)
abbrev w_rm_X0_setFour : Room := { frames := 1, cells := 0, slots := 0, locals := 22 }
set_option maxHeartbeats 4000000 in
set_option maxRecDepth 100000 in
theorem c_X0_setFour (l : Launch) (G : va_G) (E : ClassId × ClassId × ClassId) (N : Nat) (hp0 : Nat) (hp0_bytes : Nat) (p0_size : Int32) (p0_overflowed : Int32) (p0_bytes : (Nat → Int32)) (i1 : Int32) (i2 : Int32) (o0 : (Nat → Int32)) (h : f_X0_setFour N i1 i2 p0_bytes = some (o0)) : MV l G E yX0_setFour cX0_setFour 4 w_rm_X0_setFour [.ref hp0, .int i1, .int i2] [(hp0, .inr (0, [.ref hp0_bytes, .int p0_size, .int p0_overflowed])), (hp0_bytes, .inl (E.1, 1200, .inl p0_bytes))] (fun a => [(hp0, .inr (0, [.ref hp0_bytes, .int p0_size, .int p0_overflowed])), (hp0_bytes, .inl (E.1, 1200, .inl o0))]) 0 0 := by
  refine MV_of (by decide) (Nat.le_of_ble_eq_true rfl) ?_
  intro p e s m args below meth c A Q hx hb hml hown hin hts hK hA hP hD hS ret ls hl
  replace ret : ∀ (R : ((Nat → Int32))), R = (o0) → ∀ (H : Heap) (locs : List Loc) (pc : Nat) (ls : Array Slot) (a : Nat → Nat), va_P G vwCl [(hp0, .inr (0, [.ref hp0_bytes, .int p0_size, .int p0_overflowed])), (hp0_bytes, .inl (E.1, 1200, .inl R))] H → va_D A [(hp0, .inr (0, [.ref hp0_bytes, .int p0_size, .int p0_overflowed])), (hp0_bytes, .inl (E.1, 1200, .inl R))] → va_S A s.heap H locs → decode cX0_setFour pc = .ok (.return_, 1) → W p l e w_rm_X0_setFour s m args below meth c H locs 0 0 Q (F0 m pc ls []) := by
    intro R hR
    subst hR
    exact ret
  replace hl : lv_has ls 4 [(0, .ref hp0), (1, .int i1), (2, .int i2)] := hl
  unfold f_X0_setFour at h
  refine lv_iconst (v := 0) hx hb dX0_setFour_0 (by decide) ?_
  refine lv_istore_n (lv' := [(3, .int (0 : Int32)), (0, .ref hp0), (1, .int i1), (2, .int i2)]) hx hb dX0_setFour_1 rfl hl (by decide) rfl (fun ls hl => ?_)
  have hL2 : ∀ (K33 : (Nat → Int32) → Int32 → Option ((Nat → Int32))), (∀ (z1 : (Nat → Int32)) (z2 : Int32), K33 z1 z2 = some (o0) → ∀ (H : Heap) (locs : List Loc) (ls : Array Slot), va_P G vwCl [(hp0, .inr (0, [.ref hp0_bytes, .int p0_size, .int p0_overflowed])), (hp0_bytes, .inl (E.1, 1200, .inl z1))] H → va_D A [(hp0, .inr (0, [.ref hp0_bytes, .int p0_size, .int p0_overflowed])), (hp0_bytes, .inl (E.1, 1200, .inl z1))] → va_S A s.heap H locs → lv_has ls 4 [] → W p l e w_rm_X0_setFour s m args below meth c H locs 0 0 Q (F0 m 33 ls [])) → ∀ (n : Nat) (z1 : (Nat → Int32)) (z2 : Int32), L_X0_setFour_2 i1 i2 K33 n z1 z2 = some (o0) → ∀ (H : Heap) (locs : List Loc) (ls : Array Slot), va_P G vwCl [(hp0, .inr (0, [.ref hp0_bytes, .int p0_size, .int p0_overflowed])), (hp0_bytes, .inl (E.1, 1200, .inl z1))] H → va_D A [(hp0, .inr (0, [.ref hp0_bytes, .int p0_size, .int p0_overflowed])), (hp0_bytes, .inl (E.1, 1200, .inl z1))] → va_S A s.heap H locs → lv_has ls 4 [(0, .ref hp0), (1, .int i1), (2, .int i2), (3, .int z2)] → W p l e w_rm_X0_setFour s m args below meth c H locs 0 0 Q (F0 m 2 ls []) := by
    intro K33 hK33 n
    induction n with
    | zero =>
      intro z1 z2 h
      replace h : (none : Option ((Nat → Int32))) = some (o0) := h
      cases h
    | succ n ih =>
      intro z1 z2 h H locs ls hP hD hS hl
      replace h : B_X0_setFour_2 i1 i2 (fun z1 z2 => L_X0_setFour_2 i1 i2 K33 n z1 z2) K33 z1 z2 = some (o0) := h
      obtain ⟨rec2, hrec2⟩ : ∃ f : (Nat → Int32) → Int32 → Option ((Nat → Int32)), f = (fun z1 z2 => L_X0_setFour_2 i1 i2 K33 n z1 z2) := ⟨_, rfl⟩
      rw [← hrec2] at h
      unfold B_X0_setFour_2 at h
      refine lv_iload_n hx hb dX0_setFour_2 rfl (lv_at hl 3 rfl) ?_
      refine lv_iconst (v := 4) hx hb dX0_setFour_3 (by decide) ?_
      refine lv_icmp_ge (tgt := 33) hx hb dX0_setFour_4 (by decide) (fun c3 => ?_) (fun c3 => ?_)
      · replace h := if_t h c3
        exact hK33 z1 z2 h _ _ _ hP hD hS (lv_sub hl [] rfl)
      · replace h := if_f h c3
        refine lv_aload_n hx hb dX0_setFour_7 rfl (lv_at hl 0 rfl) ?_
        refine lv_iload_n hx hb dX0_setFour_8 rfl (lv_at hl 1 rfl) ?_
        refine lv_iload_n hx hb dX0_setFour_9 rfl (lv_at hl 3 rfl) ?_
        refine lv_iadd hx hb dX0_setFour_10 ?_
        refine lv_iload_n hx hb dX0_setFour_11 rfl (lv_at hl 2 rfl) ?_
        refine lv_bipush (v := 24) hx hb dX0_setFour_12 (by decide) ?_
        refine lv_bipush (v := 8) hx hb dX0_setFour_14 (by decide) ?_
        refine lv_iload_n hx hb dX0_setFour_16 rfl (lv_at hl 3 rfl) ?_
        refine lv_imul hx hb dX0_setFour_17 ?_
        refine lv_isub hx hb dX0_setFour_18 ?_
        refine lv_iushr (v := i_ushr i2 ((24 : Int32) - ((8 : Int32) * z2))) hx hb dX0_setFour_19 rfl ?_
        refine lv_sipush (v := 255) hx hb dX0_setFour_20 (by decide) ?_
        refine lv_iand hx hb dX0_setFour_23 ?_
        obtain ⟨u4, hu4, h⟩ := bd_t h
        refine cVv (wr := []) (As := [.int (i1 + z2), .int ((i_ushr i2 ((24 : Int32) - ((8 : Int32) * z2))) &&& (255 : Int32))]) (rest := []) ⟨hx, hb, hml, hown, hts⟩ (c_X0_setByte l G E hp0 hp0_bytes p0_size p0_overflowed z1 (i1 + z2) ((i_ushr i2 ((24 : Int32) - ((8 : Int32) * z2))) &&& (255 : Int32)) u4 hu4) ok_X0_setByte okv_X0_setByte wd_0da8410f ⟨Nat.le_of_ble_eq_true rfl, Nat.le_of_ble_eq_true rfl⟩ hK hP hD hS hA [0, 1] [] rfl rfl (by decide) (by decide) (by decide) (va_recv hK.1 hP (ci := 0) (q0 := 0) rfl rfl) rfl hl.1 rfl (Nat.le_of_ble_eq_true rfl) dX0_setFour_24 ⟨Nat.le_of_ble_eq_true rfl, Nat.le_of_ble_eq_true rfl⟩ (fun H locs a5 hP hD hS => ?_)
        have hP : va_P G vwCl [(hp0, .inr (0, [.ref hp0_bytes, .int p0_size, .int p0_overflowed])), (hp0_bytes, .inl (E.1, 1200, .inl u4))] H := hP
        have hD : va_D A [(hp0, .inr (0, [.ref hp0_bytes, .int p0_size, .int p0_overflowed])), (hp0_bytes, .inl (E.1, 1200, .inl u4))] := hD
        obtain ⟨x6, ex6⟩ : ∃ y : Int32, y = z2 + 1 := ⟨_, rfl⟩
        replace h := bn_t h ex6
        refine lv_iinc (v := x6) (lv' := [(3, .int x6), (0, .ref hp0), (1, .int i1), (2, .int i2)]) hx hb dX0_setFour_27 hl (k := 3) rfl (by rw [ex6]; rfl) (by decide) rfl (fun ls hl => ?_)
        refine lv_goto (tgt := 2) hx hb dX0_setFour_30 (by decide) ?_
        exact ih u4 x6 (by rw [hrec2] at h; exact h) _ _ _ hP hD hS (lv_sub hl [1, 2, 3, 0] rfl)
  refine hL2 _ (fun z1 z2 h H locs ls hP hD hS hl => ?_) N p0_bytes (0 : Int32) h _ _ _ hP hD hS (lv_sub hl [1, 2, 3, 0] rfl)
  try dsimp only at h
  exact ret (z1) (Option.some.inj h) _ _ _ _ (fun _ => 0) hP hD hS dX0_setFour_33
def f_X0_add (i1 : Int32) (p0_size : Int32) (p0_overflowed : Int32) (p0_bytes : (Nat → Int32)) : Option ((Nat → Int32) × Int32 × Int32) :=
  if p0_size < (1200 : Int32) then (
  bd (f_X0_setByte p0_size i1 p0_bytes) fun u2 =>
  bn (p0_size + (1 : Int32)) fun x4 =>
  some (u2, x4, p0_overflowed))
  else
  some (p0_bytes, p0_size, (1 : Int32))
abbrev w_rm_X0_add : Room := { frames := 1, cells := 0, slots := 0, locals := 22 }
set_option maxHeartbeats 4000000 in
set_option maxRecDepth 100000 in
theorem c_X0_add (l : Launch) (G : va_G) (E : ClassId × ClassId × ClassId) (hp0 : Nat) (hp0_bytes : Nat) (p0_size : Int32) (p0_overflowed : Int32) (p0_bytes : (Nat → Int32)) (i1 : Int32) (o0 : (Nat → Int32)) (o1 : Int32) (o2 : Int32) (h : f_X0_add i1 p0_size p0_overflowed p0_bytes = some (o0, o1, o2)) : MV l G E yX0_add cX0_add 2 w_rm_X0_add [.ref hp0, .int i1] [(hp0, .inr (0, [.ref hp0_bytes, .int p0_size, .int p0_overflowed])), (hp0_bytes, .inl (E.1, 1200, .inl p0_bytes))] (fun a => [(hp0, .inr (0, [.ref hp0_bytes, .int o1, .int o2])), (hp0_bytes, .inl (E.1, 1200, .inl o0))]) 0 0 := by
  refine MV_of (by decide) (Nat.le_of_ble_eq_true rfl) ?_
  intro p e s m args below meth c A Q hx hb hml hown hin hts hK hA hP hD hS ret ls hl
  replace ret : ∀ (R : ((Nat → Int32) × Int32 × Int32)), R = (o0, o1, o2) → ∀ (H : Heap) (locs : List Loc) (pc : Nat) (ls : Array Slot) (a : Nat → Nat), va_P G vwCl [(hp0, .inr (0, [.ref hp0_bytes, .int R.2.1, .int R.2.2])), (hp0_bytes, .inl (E.1, 1200, .inl R.1))] H → va_D A [(hp0, .inr (0, [.ref hp0_bytes, .int R.2.1, .int R.2.2])), (hp0_bytes, .inl (E.1, 1200, .inl R.1))] → va_S A s.heap H locs → decode cX0_add pc = .ok (.return_, 1) → W p l e w_rm_X0_add s m args below meth c H locs 0 0 Q (F0 m pc ls []) := by
    intro R hR
    subst hR
    exact ret
  replace hl : lv_has ls 2 [(0, .ref hp0), (1, .int i1)] := hl
  unfold f_X0_add at h
  refine lv_aload_n hx hb dX0_add_0 rfl (lv_at hl 0 rfl) ?_
  refine getF (D := G) (ci := 0) (v := .int p0_size) (C := RX0) (T := TX0) (N := 3) hx hb hts inG_X0 hown hK.1 hP 0 rfl rfl 1 (by decide) tf_X0_1 (hts _ wd_3b184e6c) rfl dX0_add_1 ?_
  refine lv_sipush (v := 1200) hx hb dX0_add_4 (by decide) ?_
  refine lv_icmp_lt (tgt := 16) hx hb dX0_add_7 (by decide) (fun c1 => ?_) (fun c1 => ?_)
  · replace h := if_t h c1
    refine lv_aload_n hx hb dX0_add_16 rfl (lv_at hl 0 rfl) ?_
    refine lv_aload_n hx hb dX0_add_17 rfl (lv_at hl 0 rfl) ?_
    refine getF (D := G) (ci := 0) (v := .int p0_size) (C := RX0) (T := TX0) (N := 3) hx hb hts inG_X0 hown hK.1 hP 0 rfl rfl 1 (by decide) tf_X0_1 (hts _ wd_3b184e6c) rfl dX0_add_18 ?_
    refine lv_iload_n hx hb dX0_add_21 rfl (lv_at hl 1 rfl) ?_
    obtain ⟨u2, hu2, h⟩ := bd_t h
    refine cVv (wr := []) (As := [.int p0_size, .int i1]) (rest := []) ⟨hx, hb, hml, hown, hts⟩ (c_X0_setByte l G E hp0 hp0_bytes p0_size p0_overflowed p0_bytes p0_size i1 u2 hu2) ok_X0_setByte okv_X0_setByte wd_0da8410f ⟨Nat.le_of_ble_eq_true rfl, Nat.le_of_ble_eq_true rfl⟩ hK hP hD hS hA [0, 1] [] rfl rfl (by decide) (by decide) (by decide) (va_recv hK.1 hP (ci := 0) (q0 := 0) rfl rfl) rfl hl.1 rfl (Nat.le_of_ble_eq_true rfl) dX0_add_22 ⟨Nat.le_of_ble_eq_true rfl, Nat.le_of_ble_eq_true rfl⟩ (fun H locs a3 hP hD hS => ?_)
    have hP : va_P G vwCl [(hp0, .inr (0, [.ref hp0_bytes, .int p0_size, .int p0_overflowed])), (hp0_bytes, .inl (E.1, 1200, .inl u2))] H := hP
    have hD : va_D A [(hp0, .inr (0, [.ref hp0_bytes, .int p0_size, .int p0_overflowed])), (hp0_bytes, .inl (E.1, 1200, .inl u2))] := hD
    refine lv_aload_n hx hb dX0_add_25 rfl (lv_at hl 0 rfl) ?_
    refine lv_dup hx hb dX0_add_26 rfl ?_
    refine getF (D := G) (ci := 0) (v := .int p0_size) (C := RX0) (T := TX0) (N := 3) hx hb hts inG_X0 hown hK.1 hP 0 rfl rfl 1 (by decide) tf_X0_1 (hts _ wd_3b184e6c) rfl dX0_add_27 ?_
    refine lv_iconst (v := 1) hx hb dX0_add_30 (by decide) ?_
    refine lv_iadd hx hb dX0_add_31 ?_
    refine lv_topi (fun x4 ex4 => ?_)
    replace h := bn_t h ex4
    refine putF (D := G) (ci := 0) (v := .int x4) (ty := .int) (C := RX0) (T := TX0) (N := 3) hx hb hts inG_X0 tyX0 tyX0_ok nmX0 hown hK.1 hP hD hS 0 rfl rfl 1 (by decide) tf_X0_1 (hts _ wd_3b184e6c) pd_I rfl rfl (Nat.le_of_ble_eq_true rfl) dX0_add_32 (fun H locs hP hD hS => ?_)
    have hP : va_P G vwCl [(hp0, .inr (0, [.ref hp0_bytes, .int x4, .int p0_overflowed])), (hp0_bytes, .inl (E.1, 1200, .inl u2))] H := hP
    have hD : va_D A [(hp0, .inr (0, [.ref hp0_bytes, .int x4, .int p0_overflowed])), (hp0_bytes, .inl (E.1, 1200, .inl u2))] := hD
    exact ret (u2, x4, p0_overflowed) (Option.some.inj h) _ _ _ _ (fun _ => 0) hP hD hS dX0_add_35
  · replace h := if_f h c1
    refine lv_aload_n hx hb dX0_add_10 rfl (lv_at hl 0 rfl) ?_
    refine lv_iconst (v := 1) hx hb dX0_add_11 (by decide) ?_
    refine putF (D := G) (ci := 0) (v := .int (1 : Int32)) (ty := .boolean) (C := RX0) (T := TX0) (N := 3) hx hb hts inG_X0 tyX0 tyX0_ok nmX0 hown hK.1 hP hD hS 0 rfl rfl 2 (by decide) tf_X0_2 (hts _ wd_15845deb) pd_Z rfl rfl (Nat.le_of_ble_eq_true rfl) dX0_add_12 (fun H locs hP hD hS => ?_)
    have hP : va_P G vwCl [(hp0, .inr (0, [.ref hp0_bytes, .int p0_size, .int (1 : Int32)])), (hp0_bytes, .inl (E.1, 1200, .inl p0_bytes))] H := hP
    have hD : va_D A [(hp0, .inr (0, [.ref hp0_bytes, .int p0_size, .int (1 : Int32)])), (hp0_bytes, .inl (E.1, 1200, .inl p0_bytes))] := hD
    exact ret (p0_bytes, p0_size, (1 : Int32)) (Option.some.inj h) _ _ _ _ (fun _ => 0) hP hD hS dX0_add_15
def B_X0_addFour_2 (i1 : Int32) (rec2 : (Nat → Int32) → Int32 → Int32 → Int32 → Option ((Nat → Int32) × Int32 × Int32)) (K30 : (Nat → Int32) → Int32 → Int32 → Int32 → Option ((Nat → Int32) × Int32 × Int32)) (z1 : (Nat → Int32)) (z2 : Int32) (z3 : Int32) (z4 : Int32) : Option ((Nat → Int32) × Int32 × Int32) :=
  if (4 : Int32) ≤ z4 then (
  K30 z1 z2 z3 z4)
  else
  bd (f_X0_add ((i_ushr i1 ((24 : Int32) - ((8 : Int32) * z4))) &&& (255 : Int32)) z2 z3 z1) fun u6 =>
  bn (z4 + 1) fun x8 =>
  rec2 u6.1 u6.2.1 u6.2.2 x8
def L_X0_addFour_2 (i1 : Int32) (K30 : (Nat → Int32) → Int32 → Int32 → Int32 → Option ((Nat → Int32) × Int32 × Int32)) : Nat → (Nat → Int32) → Int32 → Int32 → Int32 → Option ((Nat → Int32) × Int32 × Int32)
    | 0, _, _, _, _ => none
    | n + 1, z1, z2, z3, z4 => B_X0_addFour_2 i1 (fun z1 z2 z3 z4 => L_X0_addFour_2 i1 K30 n z1 z2 z3 z4) K30 z1 z2 z3 z4
def f_X0_addFour (N : Nat) (i1 : Int32) (p0_size : Int32) (p0_overflowed : Int32) (p0_bytes : (Nat → Int32)) : Option ((Nat → Int32) × Int32 × Int32) :=
  L_X0_addFour_2 i1 
  (fun z1 z2 z3 z4 =>
  some (z1, z2, z3)) N p0_bytes p0_size p0_overflowed (0 : Int32)
abbrev w_rm_X0_addFour : Room := { frames := 2, cells := 0, slots := 0, locals := 43 }
set_option maxHeartbeats 4000000 in
set_option maxRecDepth 100000 in
theorem c_X0_addFour (l : Launch) (G : va_G) (E : ClassId × ClassId × ClassId) (N : Nat) (hp0 : Nat) (hp0_bytes : Nat) (p0_size : Int32) (p0_overflowed : Int32) (p0_bytes : (Nat → Int32)) (i1 : Int32) (o0 : (Nat → Int32)) (o1 : Int32) (o2 : Int32) (h : f_X0_addFour N i1 p0_size p0_overflowed p0_bytes = some (o0, o1, o2)) : MV l G E yX0_addFour cX0_addFour 3 w_rm_X0_addFour [.ref hp0, .int i1] [(hp0, .inr (0, [.ref hp0_bytes, .int p0_size, .int p0_overflowed])), (hp0_bytes, .inl (E.1, 1200, .inl p0_bytes))] (fun a => [(hp0, .inr (0, [.ref hp0_bytes, .int o1, .int o2])), (hp0_bytes, .inl (E.1, 1200, .inl o0))]) 0 0 := by
  refine MV_of (by decide) (Nat.le_of_ble_eq_true rfl) ?_
  intro p e s m args below meth c A Q hx hb hml hown hin hts hK hA hP hD hS ret ls hl
  replace ret : ∀ (R : ((Nat → Int32) × Int32 × Int32)), R = (o0, o1, o2) → ∀ (H : Heap) (locs : List Loc) (pc : Nat) (ls : Array Slot) (a : Nat → Nat), va_P G vwCl [(hp0, .inr (0, [.ref hp0_bytes, .int R.2.1, .int R.2.2])), (hp0_bytes, .inl (E.1, 1200, .inl R.1))] H → va_D A [(hp0, .inr (0, [.ref hp0_bytes, .int R.2.1, .int R.2.2])), (hp0_bytes, .inl (E.1, 1200, .inl R.1))] → va_S A s.heap H locs → decode cX0_addFour pc = .ok (.return_, 1) → W p l e w_rm_X0_addFour s m args below meth c H locs 0 0 Q (F0 m pc ls []) := by
    intro R hR
    subst hR
    exact ret
  replace hl : lv_has ls 3 [(0, .ref hp0), (1, .int i1)] := hl
  unfold f_X0_addFour at h
  refine lv_iconst (v := 0) hx hb dX0_addFour_0 (by decide) ?_
  refine lv_istore_n (lv' := [(2, .int (0 : Int32)), (0, .ref hp0), (1, .int i1)]) hx hb dX0_addFour_1 rfl hl (by decide) rfl (fun ls hl => ?_)
  have hL2 : ∀ (K30 : (Nat → Int32) → Int32 → Int32 → Int32 → Option ((Nat → Int32) × Int32 × Int32)), (∀ (z1 : (Nat → Int32)) (z2 : Int32) (z3 : Int32) (z4 : Int32), K30 z1 z2 z3 z4 = some (o0, o1, o2) → ∀ (H : Heap) (locs : List Loc) (ls : Array Slot), va_P G vwCl [(hp0, .inr (0, [.ref hp0_bytes, .int z2, .int z3])), (hp0_bytes, .inl (E.1, 1200, .inl z1))] H → va_D A [(hp0, .inr (0, [.ref hp0_bytes, .int z2, .int z3])), (hp0_bytes, .inl (E.1, 1200, .inl z1))] → va_S A s.heap H locs → lv_has ls 3 [] → W p l e w_rm_X0_addFour s m args below meth c H locs 0 0 Q (F0 m 30 ls [])) → ∀ (n : Nat) (z1 : (Nat → Int32)) (z2 : Int32) (z3 : Int32) (z4 : Int32), L_X0_addFour_2 i1 K30 n z1 z2 z3 z4 = some (o0, o1, o2) → ∀ (H : Heap) (locs : List Loc) (ls : Array Slot), va_P G vwCl [(hp0, .inr (0, [.ref hp0_bytes, .int z2, .int z3])), (hp0_bytes, .inl (E.1, 1200, .inl z1))] H → va_D A [(hp0, .inr (0, [.ref hp0_bytes, .int z2, .int z3])), (hp0_bytes, .inl (E.1, 1200, .inl z1))] → va_S A s.heap H locs → lv_has ls 3 [(0, .ref hp0), (1, .int i1), (2, .int z4)] → W p l e w_rm_X0_addFour s m args below meth c H locs 0 0 Q (F0 m 2 ls []) := by
    intro K30 hK30 n
    induction n with
    | zero =>
      intro z1 z2 z3 z4 h
      replace h : (none : Option ((Nat → Int32) × Int32 × Int32)) = some (o0, o1, o2) := h
      cases h
    | succ n ih =>
      intro z1 z2 z3 z4 h H locs ls hP hD hS hl
      replace h : B_X0_addFour_2 i1 (fun z1 z2 z3 z4 => L_X0_addFour_2 i1 K30 n z1 z2 z3 z4) K30 z1 z2 z3 z4 = some (o0, o1, o2) := h
      obtain ⟨rec2, hrec2⟩ : ∃ f : (Nat → Int32) → Int32 → Int32 → Int32 → Option ((Nat → Int32) × Int32 × Int32), f = (fun z1 z2 z3 z4 => L_X0_addFour_2 i1 K30 n z1 z2 z3 z4) := ⟨_, rfl⟩
      rw [← hrec2] at h
      unfold B_X0_addFour_2 at h
      refine lv_iload_n hx hb dX0_addFour_2 rfl (lv_at hl 2 rfl) ?_
      refine lv_iconst (v := 4) hx hb dX0_addFour_3 (by decide) ?_
      refine lv_icmp_ge (tgt := 30) hx hb dX0_addFour_4 (by decide) (fun c5 => ?_) (fun c5 => ?_)
      · replace h := if_t h c5
        exact hK30 z1 z2 z3 z4 h _ _ _ hP hD hS (lv_sub hl [] rfl)
      · replace h := if_f h c5
        refine lv_aload_n hx hb dX0_addFour_7 rfl (lv_at hl 0 rfl) ?_
        refine lv_iload_n hx hb dX0_addFour_8 rfl (lv_at hl 1 rfl) ?_
        refine lv_bipush (v := 24) hx hb dX0_addFour_9 (by decide) ?_
        refine lv_bipush (v := 8) hx hb dX0_addFour_11 (by decide) ?_
        refine lv_iload_n hx hb dX0_addFour_13 rfl (lv_at hl 2 rfl) ?_
        refine lv_imul hx hb dX0_addFour_14 ?_
        refine lv_isub hx hb dX0_addFour_15 ?_
        refine lv_iushr (v := i_ushr i1 ((24 : Int32) - ((8 : Int32) * z4))) hx hb dX0_addFour_16 rfl ?_
        refine lv_sipush (v := 255) hx hb dX0_addFour_17 (by decide) ?_
        refine lv_iand hx hb dX0_addFour_20 ?_
        obtain ⟨u6, hu6, h⟩ := bd_t h
        refine cVv (wr := []) (As := [.int ((i_ushr i1 ((24 : Int32) - ((8 : Int32) * z4))) &&& (255 : Int32))]) (rest := []) ⟨hx, hb, hml, hown, hts⟩ (c_X0_add l G E hp0 hp0_bytes z2 z3 z1 ((i_ushr i1 ((24 : Int32) - ((8 : Int32) * z4))) &&& (255 : Int32)) u6.1 u6.2.1 u6.2.2 hu6) ok_X0_add okv_X0_add wd_a8e7de72 ⟨Nat.le_of_ble_eq_true rfl, Nat.le_of_ble_eq_true rfl⟩ hK hP hD hS hA [0, 1] [] rfl rfl (by decide) (by decide) (by decide) (va_recv hK.1 hP (ci := 0) (q0 := 0) rfl rfl) rfl hl.1 rfl (Nat.le_of_ble_eq_true rfl) dX0_addFour_21 ⟨Nat.le_of_ble_eq_true rfl, Nat.le_of_ble_eq_true rfl⟩ (fun H locs a7 hP hD hS => ?_)
        have hP : va_P G vwCl [(hp0, .inr (0, [.ref hp0_bytes, .int u6.2.1, .int u6.2.2])), (hp0_bytes, .inl (E.1, 1200, .inl u6.1))] H := hP
        have hD : va_D A [(hp0, .inr (0, [.ref hp0_bytes, .int u6.2.1, .int u6.2.2])), (hp0_bytes, .inl (E.1, 1200, .inl u6.1))] := hD
        obtain ⟨x8, ex8⟩ : ∃ y : Int32, y = z4 + 1 := ⟨_, rfl⟩
        replace h := bn_t h ex8
        refine lv_iinc (v := x8) (lv' := [(2, .int x8), (0, .ref hp0), (1, .int i1)]) hx hb dX0_addFour_24 hl (k := 2) rfl (by rw [ex8]; rfl) (by decide) rfl (fun ls hl => ?_)
        refine lv_goto (tgt := 2) hx hb dX0_addFour_27 (by decide) ?_
        exact ih u6.1 u6.2.1 u6.2.2 x8 (by rw [hrec2] at h; exact h) _ _ _ hP hD hS (lv_sub hl [1, 2, 0] rfl)
  refine hL2 _ (fun z1 z2 z3 z4 h H locs ls hP hD hS hl => ?_) N p0_bytes p0_size p0_overflowed (0 : Int32) h _ _ _ hP hD hS (lv_sub hl [1, 2, 0] rfl)
  try dsimp only at h
  exact ret (z1, z2, z3) (Option.some.inj h) _ _ _ _ (fun _ => 0) hP hD hS dX0_addFour_30
