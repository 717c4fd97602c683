def f_X1_init  : Option Unit :=
  some ()
abbrev w_rm_X1_init : Room := { frames := 1, cells := 4, slots := 568, locals := 13 }
set_option maxHeartbeats 4000000 in
set_option maxRecDepth 100000 in
theorem c_X1_init (l : Launch) (G : va_G) (E : ClassId × ClassId × ClassId) (hp0 : Nat)  (h : f_X1_init = some ()) : MV l G E yX1_init cX1_init 1 w_rm_X1_init [.ref hp0] [(hp0, .inr (1, [.null, .int (0 : Int32), .null, .int (0 : Int32), .null, .null, .int (0 : Int32)]))] (fun a => [(hp0, .inr (1, [.ref (a 0), .int (0 : Int32), .ref (a 1), .int (0 : Int32), .ref (a 2), .ref (a 3), .int (0 : Int32)])), ((a 0), .inl (E.1, 512, .inl (fun _ => 0))), ((a 1), .inl (E.1, 40, .inl (fun _ => 0))), ((a 2), .inl (E.1, 8, .inl (fun _ => 0))), ((a 3), .inl (E.1, 8, .inl (fun _ => 0)))]) 4 568 := by
  refine MV_of (by decide) (Nat.le_of_ble_eq_true rfl) ?_
  intro p e s m args below meth c A Q hx hb hml hown hin hts hK hA hP hD hS ret ls hl
  replace hin := hin rfl
  replace hl : lv_has ls 1 [(0, .ref hp0)] := hl
  unfold f_X1_init at h
  refine lv_aload_n hx hb dX1_init_0 rfl (lv_at hl 0 rfl) ?_
  refine W.objInit hx hb hown (hts _ wd_eb11a680) (hts _ wd_449f795d) (hts _ wd_679af842) rfl (by rw [hml]; exact hl.1) rfl dX1_init_1 (Nat.le_of_ble_eq_true rfl) (Nat.le_of_ble_eq_true rfl) ?_
  refine W.eq (g2 := F0 m 4 ls []) rfl ?_
  refine lv_aload_n hx hb dX1_init_4 rfl (lv_at hl 0 rfl) ?_
  refine lv_sipush (v := 512) hx hb dX1_init_5 (by decide) ?_
  refine va_newa (atype := .int) (ty := .int) (N' := 512) (a0 := (512, .inl (fun _ => 0))) hx hb (hts _ wd_c201d5c8) rfl hK.1 hP hD hS hA (fun _ => rfl) (by decide) (by decide) (by decide) (Nat.le_of_ble_eq_true rfl) (Nat.le_of_ble_eq_true rfl) dX1_init_8 (fun q1 cA H hK9 hP hD hS => ?_)
  obtain rfl := ct_int hK hK9
  have hP : va_P G vwCl [(hp0, .inr (1, [.null, .int (0 : Int32), .null, .int (0 : Int32), .null, .null, .int (0 : Int32)])), (q1, .inl (E.1, 512, .inl (fun _ => 0)))] H := hP
  have hD : va_D A [(hp0, .inr (1, [.null, .int (0 : Int32), .null, .int (0 : Int32), .null, .null, .int (0 : Int32)])), (q1, .inl (E.1, 512, .inl (fun _ => 0)))] := hD
  refine putFF (D := G) (ci := 1) (v := .ref q1) (ty := .array .int) (C := RX1) (T := TX1) (N := 7) hx hb hts inG_X1 tyX1 tyX1_ok nmX1 hown hK.1 hP hD hS 0 rfl rfl 0 (by decide) tf_X1_0 (hts _ wd_78089881) hin pd_AI rfl rfl (Nat.le_of_ble_eq_true rfl) dX1_init_10 (fun H locs hP hD hS => ?_)
  have hP : va_P G vwCl [(hp0, .inr (1, [.ref q1, .int (0 : Int32), .null, .int (0 : Int32), .null, .null, .int (0 : Int32)])), (q1, .inl (E.1, 512, .inl (fun _ => 0)))] H := hP
  have hD : va_D A [(hp0, .inr (1, [.ref q1, .int (0 : Int32), .null, .int (0 : Int32), .null, .null, .int (0 : Int32)])), (q1, .inl (E.1, 512, .inl (fun _ => 0)))] := hD
  refine lv_aload_n hx hb dX1_init_13 rfl (lv_at hl 0 rfl) ?_
  refine lv_iconst (v := 0) hx hb dX1_init_14 (by decide) ?_
  refine putF (D := G) (ci := 1) (v := .int (0 : Int32)) (ty := .int) (C := RX1) (T := TX1) (N := 7) hx hb hts inG_X1 tyX1 tyX1_ok nmX1 hown hK.1 hP hD hS 0 rfl rfl 1 (by decide) tf_X1_1 (hts _ wd_41c784e1) pd_I rfl rfl (Nat.le_of_ble_eq_true rfl) dX1_init_15 (fun H locs hP hD hS => ?_)
  have hP : va_P G vwCl [(hp0, .inr (1, [.ref q1, .int (0 : Int32), .null, .int (0 : Int32), .null, .null, .int (0 : Int32)])), (q1, .inl (E.1, 512, .inl (fun _ => 0)))] H := hP
  have hD : va_D A [(hp0, .inr (1, [.ref q1, .int (0 : Int32), .null, .int (0 : Int32), .null, .null, .int (0 : Int32)])), (q1, .inl (E.1, 512, .inl (fun _ => 0)))] := hD
  refine lv_aload_n hx hb dX1_init_18 rfl (lv_at hl 0 rfl) ?_
  refine lv_bipush (v := 40) hx hb dX1_init_19 (by decide) ?_
  refine va_newa (atype := .int) (ty := .int) (N' := 40) (a0 := (40, .inl (fun _ => 0))) hx hb (hts _ wd_c201d5c8) rfl hK.1 hP hD hS hA (fun _ => rfl) (by decide) (by decide) (by decide) (Nat.le_of_ble_eq_true rfl) (Nat.le_of_ble_eq_true rfl) dX1_init_21 (fun q2 cA H hK9 hP hD hS => ?_)
  obtain rfl := ct_int hK hK9
  have hP : va_P G vwCl [(hp0, .inr (1, [.ref q1, .int (0 : Int32), .null, .int (0 : Int32), .null, .null, .int (0 : Int32)])), (q1, .inl (E.1, 512, .inl (fun _ => 0))), (q2, .inl (E.1, 40, .inl (fun _ => 0)))] H := hP
  have hD : va_D A [(hp0, .inr (1, [.ref q1, .int (0 : Int32), .null, .int (0 : Int32), .null, .null, .int (0 : Int32)])), (q1, .inl (E.1, 512, .inl (fun _ => 0))), (q2, .inl (E.1, 40, .inl (fun _ => 0)))] := hD
  refine putFF (D := G) (ci := 1) (v := .ref q2) (ty := .array .int) (C := RX1) (T := TX1) (N := 7) hx hb hts inG_X1 tyX1 tyX1_ok nmX1 hown hK.1 hP hD hS 0 rfl rfl 2 (by decide) tf_X1_2 (hts _ wd_4041e156) hin pd_AI rfl rfl (Nat.le_of_ble_eq_true rfl) dX1_init_23 (fun H locs hP hD hS => ?_)
  have hP : va_P G vwCl [(hp0, .inr (1, [.ref q1, .int (0 : Int32), .ref q2, .int (0 : Int32), .null, .null, .int (0 : Int32)])), (q1, .inl (E.1, 512, .inl (fun _ => 0))), (q2, .inl (E.1, 40, .inl (fun _ => 0)))] H := hP
  have hD : va_D A [(hp0, .inr (1, [.ref q1, .int (0 : Int32), .ref q2, .int (0 : Int32), .null, .null, .int (0 : Int32)])), (q1, .inl (E.1, 512, .inl (fun _ => 0))), (q2, .inl (E.1, 40, .inl (fun _ => 0)))] := hD
  refine lv_aload_n hx hb dX1_init_26 rfl (lv_at hl 0 rfl) ?_
  refine lv_iconst (v := 0) hx hb dX1_init_27 (by decide) ?_
  refine putF (D := G) (ci := 1) (v := .int (0 : Int32)) (ty := .int) (C := RX1) (T := TX1) (N := 7) hx hb hts inG_X1 tyX1 tyX1_ok nmX1 hown hK.1 hP hD hS 0 rfl rfl 3 (by decide) tf_X1_3 (hts _ wd_20db0b98) pd_I rfl rfl (Nat.le_of_ble_eq_true rfl) dX1_init_28 (fun H locs hP hD hS => ?_)
  have hP : va_P G vwCl [(hp0, .inr (1, [.ref q1, .int (0 : Int32), .ref q2, .int (0 : Int32), .null, .null, .int (0 : Int32)])), (q1, .inl (E.1, 512, .inl (fun _ => 0))), (q2, .inl (E.1, 40, .inl (fun _ => 0)))] H := hP
  have hD : va_D A [(hp0, .inr (1, [.ref q1, .int (0 : Int32), .ref q2, .int (0 : Int32), .null, .null, .int (0 : Int32)])), (q1, .inl (E.1, 512, .inl (fun _ => 0))), (q2, .inl (E.1, 40, .inl (fun _ => 0)))] := hD
  refine lv_aload_n hx hb dX1_init_31 rfl (lv_at hl 0 rfl) ?_
  refine lv_bipush (v := 8) hx hb dX1_init_32 (by decide) ?_
  refine va_newa (atype := .int) (ty := .int) (N' := 8) (a0 := (8, .inl (fun _ => 0))) hx hb (hts _ wd_c201d5c8) rfl hK.1 hP hD hS hA (fun _ => rfl) (by decide) (by decide) (by decide) (Nat.le_of_ble_eq_true rfl) (Nat.le_of_ble_eq_true rfl) dX1_init_34 (fun q3 cA H hK9 hP hD hS => ?_)
  obtain rfl := ct_int hK hK9
  have hP : va_P G vwCl [(hp0, .inr (1, [.ref q1, .int (0 : Int32), .ref q2, .int (0 : Int32), .null, .null, .int (0 : Int32)])), (q1, .inl (E.1, 512, .inl (fun _ => 0))), (q2, .inl (E.1, 40, .inl (fun _ => 0))), (q3, .inl (E.1, 8, .inl (fun _ => 0)))] H := hP
  have hD : va_D A [(hp0, .inr (1, [.ref q1, .int (0 : Int32), .ref q2, .int (0 : Int32), .null, .null, .int (0 : Int32)])), (q1, .inl (E.1, 512, .inl (fun _ => 0))), (q2, .inl (E.1, 40, .inl (fun _ => 0))), (q3, .inl (E.1, 8, .inl (fun _ => 0)))] := hD
  refine putFF (D := G) (ci := 1) (v := .ref q3) (ty := .array .int) (C := RX1) (T := TX1) (N := 7) hx hb hts inG_X1 tyX1 tyX1_ok nmX1 hown hK.1 hP hD hS 0 rfl rfl 4 (by decide) tf_X1_4 (hts _ wd_30cca9c2) hin pd_AI rfl rfl (Nat.le_of_ble_eq_true rfl) dX1_init_36 (fun H locs hP hD hS => ?_)
  have hP : va_P G vwCl [(hp0, .inr (1, [.ref q1, .int (0 : Int32), .ref q2, .int (0 : Int32), .ref q3, .null, .int (0 : Int32)])), (q1, .inl (E.1, 512, .inl (fun _ => 0))), (q2, .inl (E.1, 40, .inl (fun _ => 0))), (q3, .inl (E.1, 8, .inl (fun _ => 0)))] H := hP
  have hD : va_D A [(hp0, .inr (1, [.ref q1, .int (0 : Int32), .ref q2, .int (0 : Int32), .ref q3, .null, .int (0 : Int32)])), (q1, .inl (E.1, 512, .inl (fun _ => 0))), (q2, .inl (E.1, 40, .inl (fun _ => 0))), (q3, .inl (E.1, 8, .inl (fun _ => 0)))] := hD
  refine lv_aload_n hx hb dX1_init_39 rfl (lv_at hl 0 rfl) ?_
  refine lv_bipush (v := 8) hx hb dX1_init_40 (by decide) ?_
  refine va_newa (atype := .int) (ty := .int) (N' := 8) (a0 := (8, .inl (fun _ => 0))) hx hb (hts _ wd_c201d5c8) rfl hK.1 hP hD hS hA (fun _ => rfl) (by decide) (by decide) (by decide) (Nat.le_of_ble_eq_true rfl) (Nat.le_of_ble_eq_true rfl) dX1_init_42 (fun q4 cA H hK9 hP hD hS => ?_)
  obtain rfl := ct_int hK hK9
  have hP : va_P G vwCl [(hp0, .inr (1, [.ref q1, .int (0 : Int32), .ref q2, .int (0 : Int32), .ref q3, .null, .int (0 : Int32)])), (q1, .inl (E.1, 512, .inl (fun _ => 0))), (q2, .inl (E.1, 40, .inl (fun _ => 0))), (q3, .inl (E.1, 8, .inl (fun _ => 0))), (q4, .inl (E.1, 8, .inl (fun _ => 0)))] H := hP
  have hD : va_D A [(hp0, .inr (1, [.ref q1, .int (0 : Int32), .ref q2, .int (0 : Int32), .ref q3, .null, .int (0 : Int32)])), (q1, .inl (E.1, 512, .inl (fun _ => 0))), (q2, .inl (E.1, 40, .inl (fun _ => 0))), (q3, .inl (E.1, 8, .inl (fun _ => 0))), (q4, .inl (E.1, 8, .inl (fun _ => 0)))] := hD
  refine putFF (D := G) (ci := 1) (v := .ref q4) (ty := .array .int) (C := RX1) (T := TX1) (N := 7) hx hb hts inG_X1 tyX1 tyX1_ok nmX1 hown hK.1 hP hD hS 0 rfl rfl 5 (by decide) tf_X1_5 (hts _ wd_2f64a7ae) hin pd_AI rfl rfl (Nat.le_of_ble_eq_true rfl) dX1_init_44 (fun H locs hP hD hS => ?_)
  have hP : va_P G vwCl [(hp0, .inr (1, [.ref q1, .int (0 : Int32), .ref q2, .int (0 : Int32), .ref q3, .ref q4, .int (0 : Int32)])), (q1, .inl (E.1, 512, .inl (fun _ => 0))), (q2, .inl (E.1, 40, .inl (fun _ => 0))), (q3, .inl (E.1, 8, .inl (fun _ => 0))), (q4, .inl (E.1, 8, .inl (fun _ => 0)))] H := hP
  have hD : va_D A [(hp0, .inr (1, [.ref q1, .int (0 : Int32), .ref q2, .int (0 : Int32), .ref q3, .ref q4, .int (0 : Int32)])), (q1, .inl (E.1, 512, .inl (fun _ => 0))), (q2, .inl (E.1, 40, .inl (fun _ => 0))), (q3, .inl (E.1, 8, .inl (fun _ => 0))), (q4, .inl (E.1, 8, .inl (fun _ => 0)))] := hD
  refine lv_aload_n hx hb dX1_init_47 rfl (lv_at hl 0 rfl) ?_
  refine lv_iconst (v := 0) hx hb dX1_init_48 (by decide) ?_
  refine putF (D := G) (ci := 1) (v := .int (0 : Int32)) (ty := .int) (C := RX1) (T := TX1) (N := 7) hx hb hts inG_X1 tyX1 tyX1_ok nmX1 hown hK.1 hP hD hS 0 rfl rfl 6 (by decide) tf_X1_6 (hts _ wd_82724fa2) pd_I rfl rfl (Nat.le_of_ble_eq_true rfl) dX1_init_49 (fun H locs hP hD hS => ?_)
  have hP : va_P G vwCl [(hp0, .inr (1, [.ref q1, .int (0 : Int32), .ref q2, .int (0 : Int32), .ref q3, .ref q4, .int (0 : Int32)])), (q1, .inl (E.1, 512, .inl (fun _ => 0))), (q2, .inl (E.1, 40, .inl (fun _ => 0))), (q3, .inl (E.1, 8, .inl (fun _ => 0))), (q4, .inl (E.1, 8, .inl (fun _ => 0)))] H := hP
  have hD : va_D A [(hp0, .inr (1, [.ref q1, .int (0 : Int32), .ref q2, .int (0 : Int32), .ref q3, .ref q4, .int (0 : Int32)])), (q1, .inl (E.1, 512, .inl (fun _ => 0))), (q2, .inl (E.1, 40, .inl (fun _ => 0))), (q3, .inl (E.1, 8, .inl (fun _ => 0))), (q4, .inl (E.1, 8, .inl (fun _ => 0)))] := hD
  exact ret _ _ _ _ (fun k => [q1, q2, q3, q4].getD k 0) hP hD hS dX1_init_52
def f_X1_begin (p1_end : Int32) (p1_original : (Nat → Int32)) (p0_memory : (Nat → Int32)) : Option ((Nat → Int32) × Int32 × Int32 × Int32) :=
  bn (va_cpy p1_original p0_memory (0 : Int32).toNatClampNeg (0 : Int32).toNatClampNeg (512 : Int32).toNatClampNeg) fun m1 =>
  some (m1, p1_end, (0 : Int32), (0 : Int32))
abbrev w_rm_X1_begin : Room := { frames := 1, cells := 0, slots := 0, locals := 64 }
set_option maxHeartbeats 4000000 in
set_option maxRecDepth 100000 in
theorem c_X1_begin (l : Launch) (G : va_G) (E : ClassId × ClassId × ClassId) (hp1 : Nat) (p1_ram : Int32) (p1_end : Int32) (hp1_original : Nat) (hp0 : Nat) (hp0_memory : Nat) (p0_size : Int32) (hp0_stack : Nat) (p0_depth : Int32) (hp0_starts : Nat) (hp0_lengths : Nat) (p0_blocks : Int32) (p1_original : (Nat → Int32)) (p0_memory : (Nat → Int32)) (o0 : (Nat → Int32)) (o1 : Int32) (o2 : Int32) (o3 : Int32) (h : f_X1_begin p1_end p1_original p0_memory = some (o0, o1, o2, o3)) : MV l G E yX1_begin cX1_begin 2 w_rm_X1_begin [.ref hp0, .ref hp1] [(hp1, .inr (4, [.int p1_ram, .int p1_end, .ref hp1_original])), (hp0, .inr (1, [.ref hp0_memory, .int p0_size, .ref hp0_stack, .int p0_depth, .ref hp0_starts, .ref hp0_lengths, .int p0_blocks])), (hp1_original, .inl (E.1, 512, .inl p1_original)), (hp0_memory, .inl (E.1, 512, .inl p0_memory))] (fun a => [(hp1, .inr (4, [.int p1_ram, .int p1_end, .ref hp1_original])), (hp0, .inr (1, [.ref hp0_memory, .int o1, .ref hp0_stack, .int o2, .ref hp0_starts, .ref hp0_lengths, .int o3])), (hp1_original, .inl (E.1, 512, .inl p1_original)), (hp0_memory, .inl (E.1, 512, .inl o0))]) 0 0 := by
  refine MV_of (by decide) (Nat.le_of_ble_eq_true rfl) ?_
  intro p e s m args below meth c A Q hx hb hml hown hin hts hK hA hP hD hS ret ls hl
  replace ret : ∀ (R : ((Nat → Int32) × Int32 × Int32 × Int32)), R = (o0, o1, o2, o3) → ∀ (H : Heap) (locs : List Loc) (pc : Nat) (ls : Array Slot) (a : Nat → Nat), va_P G vwCl [(hp1, .inr (4, [.int p1_ram, .int p1_end, .ref hp1_original])), (hp0, .inr (1, [.ref hp0_memory, .int R.2.1, .ref hp0_stack, .int R.2.2.1, .ref hp0_starts, .ref hp0_lengths, .int R.2.2.2])), (hp1_original, .inl (E.1, 512, .inl p1_original)), (hp0_memory, .inl (E.1, 512, .inl R.1))] H → va_D A [(hp1, .inr (4, [.int p1_ram, .int p1_end, .ref hp1_original])), (hp0, .inr (1, [.ref hp0_memory, .int R.2.1, .ref hp0_stack, .int R.2.2.1, .ref hp0_starts, .ref hp0_lengths, .int R.2.2.2])), (hp1_original, .inl (E.1, 512, .inl p1_original)), (hp0_memory, .inl (E.1, 512, .inl R.1))] → va_S A s.heap H locs → decode cX1_begin pc = .ok (.return_, 1) → W p l e w_rm_X1_begin s m args below meth c H locs 0 0 Q (F0 m pc ls []) := by
    intro R hR
    subst hR
    exact ret
  replace hl : lv_has ls 2 [(0, .ref hp0), (1, .ref hp1)] := hl
  unfold f_X1_begin at h
  refine lv_aload_n hx hb dX1_begin_0 rfl (lv_at hl 1 rfl) ?_
  refine getF (D := G) (ci := 4) (v := .ref hp1_original) (C := RX4) (T := TX4) (N := 3) hx hb hts inG_X4 hown hK.1 hP 0 rfl rfl 2 (by decide) tf_X4_2 (hts _ wd_9f405ff8) rfl dX1_begin_1 ?_
  refine lv_iconst (v := 0) hx hb dX1_begin_4 (by decide) ?_
  refine lv_aload_n hx hb dX1_begin_5 rfl (lv_at hl 0 rfl) ?_
  refine getF (D := G) (ci := 1) (v := .ref hp0_memory) (C := RX1) (T := TX1) (N := 7) hx hb hts inG_X1 hown hK.1 hP 1 rfl rfl 0 (by decide) tf_X1_0 (hts _ wd_78089881) rfl dX1_begin_6 ?_
  refine lv_iconst (v := 0) hx hb dX1_begin_9 (by decide) ?_
  refine lv_sipush (v := 512) hx hb dX1_begin_10 (by decide) ?_
  refine va_copyi hx hb (hml.trans hl.1.symm) hown (hts _ wd_18b61737) (hts _ wd_b8e2a615) (hts _ wd_0f5f9aba) (hts _ wd_4e16621c) hK.1 hP hD hS 2 3 0 0 rfl rfl rfl rfl rfl (by decide) (by decide) (by decide) (by decide) (by decide) (fun _ _ => rfl) (Nat.le_of_ble_eq_true rfl) (by decide +kernel) dX1_begin_13 (fun H locs hP hD hS => ?_)
  have hP : va_P G vwCl [(hp1, .inr (4, [.int p1_ram, .int p1_end, .ref hp1_original])), (hp0, .inr (1, [.ref hp0_memory, .int p0_size, .ref hp0_stack, .int p0_depth, .ref hp0_starts, .ref hp0_lengths, .int p0_blocks])), (hp1_original, .inl (E.1, 512, .inl p1_original)), (hp0_memory, .inl (E.1, 512, .inl (va_cpy p1_original p0_memory (0 : Int32).toNatClampNeg (0 : Int32).toNatClampNeg (512 : Int32).toNatClampNeg)))] H := hP
  have hD : va_D A [(hp1, .inr (4, [.int p1_ram, .int p1_end, .ref hp1_original])), (hp0, .inr (1, [.ref hp0_memory, .int p0_size, .ref hp0_stack, .int p0_depth, .ref hp0_starts, .ref hp0_lengths, .int p0_blocks])), (hp1_original, .inl (E.1, 512, .inl p1_original)), (hp0_memory, .inl (E.1, 512, .inl (va_cpy p1_original p0_memory (0 : Int32).toNatClampNeg (0 : Int32).toNatClampNeg (512 : Int32).toNatClampNeg)))] := hD
  obtain ⟨m1, em1⟩ : ∃ y : Nat → Int32, y = va_cpy p1_original p0_memory (0 : Int32).toNatClampNeg (0 : Int32).toNatClampNeg (512 : Int32).toNatClampNeg := ⟨_, rfl⟩
  replace h := bn_t h em1
  rw [← em1] at hP hD
  refine lv_aload_n hx hb dX1_begin_16 rfl (lv_at hl 0 rfl) ?_
  refine lv_aload_n hx hb dX1_begin_17 rfl (lv_at hl 1 rfl) ?_
  refine getF (D := G) (ci := 4) (v := .int p1_end) (C := RX4) (T := TX4) (N := 3) hx hb hts inG_X4 hown hK.1 hP 0 rfl rfl 1 (by decide) tf_X4_1 (hts _ wd_f5bc893f) rfl dX1_begin_18 ?_
  refine putF (D := G) (ci := 1) (v := .int p1_end) (ty := .int) (C := RX1) (T := TX1) (N := 7) hx hb hts inG_X1 tyX1 tyX1_ok nmX1 hown hK.1 hP hD hS 1 rfl rfl 1 (by decide) tf_X1_1 (hts _ wd_41c784e1) pd_I rfl rfl (Nat.le_of_ble_eq_true rfl) dX1_begin_21 (fun H locs hP hD hS => ?_)
  have hP : va_P G vwCl [(hp1, .inr (4, [.int p1_ram, .int p1_end, .ref hp1_original])), (hp0, .inr (1, [.ref hp0_memory, .int p1_end, .ref hp0_stack, .int p0_depth, .ref hp0_starts, .ref hp0_lengths, .int p0_blocks])), (hp1_original, .inl (E.1, 512, .inl p1_original)), (hp0_memory, .inl (E.1, 512, .inl m1))] H := hP
  have hD : va_D A [(hp1, .inr (4, [.int p1_ram, .int p1_end, .ref hp1_original])), (hp0, .inr (1, [.ref hp0_memory, .int p1_end, .ref hp0_stack, .int p0_depth, .ref hp0_starts, .ref hp0_lengths, .int p0_blocks])), (hp1_original, .inl (E.1, 512, .inl p1_original)), (hp0_memory, .inl (E.1, 512, .inl m1))] := hD
  refine lv_aload_n hx hb dX1_begin_24 rfl (lv_at hl 0 rfl) ?_
  refine lv_iconst (v := 0) hx hb dX1_begin_25 (by decide) ?_
  refine putF (D := G) (ci := 1) (v := .int (0 : Int32)) (ty := .int) (C := RX1) (T := TX1) (N := 7) hx hb hts inG_X1 tyX1 tyX1_ok nmX1 hown hK.1 hP hD hS 1 rfl rfl 3 (by decide) tf_X1_3 (hts _ wd_20db0b98) pd_I rfl rfl (Nat.le_of_ble_eq_true rfl) dX1_begin_26 (fun H locs hP hD hS => ?_)
  have hP : va_P G vwCl [(hp1, .inr (4, [.int p1_ram, .int p1_end, .ref hp1_original])), (hp0, .inr (1, [.ref hp0_memory, .int p1_end, .ref hp0_stack, .int (0 : Int32), .ref hp0_starts, .ref hp0_lengths, .int p0_blocks])), (hp1_original, .inl (E.1, 512, .inl p1_original)), (hp0_memory, .inl (E.1, 512, .inl m1))] H := hP
  have hD : va_D A [(hp1, .inr (4, [.int p1_ram, .int p1_end, .ref hp1_original])), (hp0, .inr (1, [.ref hp0_memory, .int p1_end, .ref hp0_stack, .int (0 : Int32), .ref hp0_starts, .ref hp0_lengths, .int p0_blocks])), (hp1_original, .inl (E.1, 512, .inl p1_original)), (hp0_memory, .inl (E.1, 512, .inl m1))] := hD
  refine lv_aload_n hx hb dX1_begin_29 rfl (lv_at hl 0 rfl) ?_
  refine lv_iconst (v := 0) hx hb dX1_begin_30 (by decide) ?_
  refine putF (D := G) (ci := 1) (v := .int (0 : Int32)) (ty := .int) (C := RX1) (T := TX1) (N := 7) hx hb hts inG_X1 tyX1 tyX1_ok nmX1 hown hK.1 hP hD hS 1 rfl rfl 6 (by decide) tf_X1_6 (hts _ wd_82724fa2) pd_I rfl rfl (Nat.le_of_ble_eq_true rfl) dX1_begin_31 (fun H locs hP hD hS => ?_)
  have hP : va_P G vwCl [(hp1, .inr (4, [.int p1_ram, .int p1_end, .ref hp1_original])), (hp0, .inr (1, [.ref hp0_memory, .int p1_end, .ref hp0_stack, .int (0 : Int32), .ref hp0_starts, .ref hp0_lengths, .int (0 : Int32)])), (hp1_original, .inl (E.1, 512, .inl p1_original)), (hp0_memory, .inl (E.1, 512, .inl m1))] H := hP
  have hD : va_D A [(hp1, .inr (4, [.int p1_ram, .int p1_end, .ref hp1_original])), (hp0, .inr (1, [.ref hp0_memory, .int p1_end, .ref hp0_stack, .int (0 : Int32), .ref hp0_starts, .ref hp0_lengths, .int (0 : Int32)])), (hp1_original, .inl (E.1, 512, .inl p1_original)), (hp0_memory, .inl (E.1, 512, .inl m1))] := hD
  exact ret (m1, p1_end, (0 : Int32), (0 : Int32)) (Option.some.inj h) _ _ _ _ (fun _ => 0) hP hD hS dX1_begin_34
def J_X1_become_78 (z3 : Int32) (rec16 : (Nat → Int32) → Int32 → Option ((Nat → Int32) × Int32 × (Nat → Int32) × Int32 × (Nat → Int32) × (Nat → Int32) × Int32)) (y9 : (Nat → Int32)) : Option ((Nat → Int32) × Int32 × (Nat → Int32) × Int32 × (Nat → Int32) × (Nat → Int32) × Int32) :=
  bn (z3 + 1) fun x10 =>
  rec16 y9 x10
def J_X1_become_57 (p1_memory : (Nat → Int32)) (z2 : (Nat → Int32)) (z3 : Int32) (rec16 : (Nat → Int32) → Int32 → Option ((Nat → Int32) × Int32 × (Nat → Int32) × Int32 × (Nat → Int32) × (Nat → Int32) × Int32)) (y7 : Int32) : Option ((Nat → Int32) × Int32 × (Nat → Int32) × Int32 × (Nat → Int32) × (Nat → Int32) × Int32) :=
  if y7 = 0 then (
  gin z3 512 <|
  bn (p1_memory z3.toNatClampNeg) fun x12 =>
  gin z3 512 <|
  bn (upd z2 z3.toNatClampNeg x12) fun m14 =>
  J_X1_become_78 z3 rec16 m14)
  else
  J_X1_become_78 z3 rec16 z2
def J_X1_become_56 (p1_memory : (Nat → Int32)) (z2 : (Nat → Int32)) (z3 : Int32) (rec16 : (Nat → Int32) → Int32 → Option ((Nat → Int32) × Int32 × (Nat → Int32) × Int32 × (Nat → Int32) × (Nat → Int32) × Int32))  : Option ((Nat → Int32) × Int32 × (Nat → Int32) × Int32 × (Nat → Int32) × (Nat → Int32) × Int32) :=
  J_X1_become_57 p1_memory z2 z3 rec16 (0 : Int32)
def B_X1_become_16 (i2 : Int32) (i3 : Int32) (p1_size : Int32) (p1_memory : (Nat → Int32)) (x1 : Int32) (rec16 : (Nat → Int32) → Int32 → Option ((Nat → Int32) × Int32 × (Nat → Int32) × Int32 × (Nat → Int32) × (Nat → Int32) × Int32)) (K84 : (Nat → Int32) → Int32 → Option ((Nat → Int32) × Int32 × (Nat → Int32) × Int32 × (Nat → Int32) × (Nat → Int32) × Int32)) (z2 : (Nat → Int32)) (z3 : Int32) : Option ((Nat → Int32) × Int32 × (Nat → Int32) × Int32 × (Nat → Int32) × (Nat → Int32) × Int32) :=
  if p1_size ≤ z3 then (
  K84 z2 z3)
  else
  if (512 : Int32) ≤ z3 then (
  K84 z2 z3)
  else
  if z3 < i2 then (
  J_X1_become_56 p1_memory z2 z3 rec16)
  else
  if i3 ≤ z3 then (
  J_X1_become_56 p1_memory z2 z3 rec16)
  else
  if x1 ≤ z3 then (
  J_X1_become_56 p1_memory z2 z3 rec16)
  else
  J_X1_become_57 p1_memory z2 z3 rec16 (1 : Int32)
def L_X1_become_16 (i2 : Int32) (i3 : Int32) (p1_size : Int32) (p1_memory : (Nat → Int32)) (x1 : Int32) (K84 : (Nat → Int32) → Int32 → Option ((Nat → Int32) × Int32 × (Nat → Int32) × Int32 × (Nat → Int32) × (Nat → Int32) × Int32)) : Nat → (Nat → Int32) → Int32 → Option ((Nat → Int32) × Int32 × (Nat → Int32) × Int32 × (Nat → Int32) × (Nat → Int32) × Int32)
    | 0, _, _ => none
    | n + 1, z2, z3 => B_X1_become_16 i2 i3 p1_size p1_memory x1 (fun z2 z3 => L_X1_become_16 i2 i3 p1_size p1_memory x1 K84 n z2 z3) K84 z2 z3
def f_X1_become (N : Nat) (i2 : Int32) (i3 : Int32) (p0_size : Int32) (p1_size : Int32) (p1_depth : Int32) (p1_blocks : Int32) (p1_memory : (Nat → Int32)) (p0_memory : (Nat → Int32)) (p1_stack : (Nat → Int32)) (p0_stack : (Nat → Int32)) (p1_starts : (Nat → Int32)) (p0_starts : (Nat → Int32)) (p1_lengths : (Nat → Int32)) (p0_lengths : (Nat → Int32)) : Option ((Nat → Int32) × Int32 × (Nat → Int32) × Int32 × (Nat → Int32) × (Nat → Int32) × Int32) :=
  bn (i_min p0_size p1_size) fun x1 =>
  L_X1_become_16 i2 i3 p1_size p1_memory x1 
  (fun z2 z3 =>
  bn (va_cpy p1_stack p0_stack (0 : Int32).toNatClampNeg (0 : Int32).toNatClampNeg (40 : Int32).toNatClampNeg) fun m17 =>
  bn (va_cpy p1_starts p0_starts (0 : Int32).toNatClampNeg (0 : Int32).toNatClampNeg (8 : Int32).toNatClampNeg) fun m18 =>
  bn (va_cpy p1_lengths p0_lengths (0 : Int32).toNatClampNeg (0 : Int32).toNatClampNeg (8 : Int32).toNatClampNeg) fun m19 =>
  some (z2, p1_size, m17, p1_depth, m18, m19, p1_blocks)) N p0_memory (0 : Int32)
abbrev w_rm_X1_become : Room := { frames := 1, cells := 0, slots := 0, locals := 64 }
set_option maxHeartbeats 4000000 in
set_option maxRecDepth 100000 in
theorem c_X1_become (l : Launch) (G : va_G) (E : ClassId × ClassId × ClassId) (N : Nat) (hp0 : Nat) (hp0_memory : Nat) (p0_size : Int32) (hp0_stack : Nat) (p0_depth : Int32) (hp0_starts : Nat) (hp0_lengths : Nat) (p0_blocks : Int32) (hp1 : Nat) (hp1_memory : Nat) (p1_size : Int32) (hp1_stack : Nat) (p1_depth : Int32) (hp1_starts : Nat) (hp1_lengths : Nat) (p1_blocks : Int32) (p1_memory : (Nat → Int32)) (p0_memory : (Nat → Int32)) (p1_stack : (Nat → Int32)) (p0_stack : (Nat → Int32)) (p1_starts : (Nat → Int32)) (p0_starts : (Nat → Int32)) (p1_lengths : (Nat → Int32)) (p0_lengths : (Nat → Int32)) (i2 : Int32) (i3 : Int32) (o0 : (Nat → Int32)) (o1 : Int32) (o2 : (Nat → Int32)) (o3 : Int32) (o4 : (Nat → Int32)) (o5 : (Nat → Int32)) (o6 : Int32) (h : f_X1_become N i2 i3 p0_size p1_size p1_depth p1_blocks p1_memory p0_memory p1_stack p0_stack p1_starts p0_starts p1_lengths p0_lengths = some (o0, o1, o2, o3, o4, o5, o6)) : MV l G E yX1_become cX1_become 7 w_rm_X1_become [.ref hp0, .ref hp1, .int i2, .int i3] [(hp0, .inr (1, [.ref hp0_memory, .int p0_size, .ref hp0_stack, .int p0_depth, .ref hp0_starts, .ref hp0_lengths, .int p0_blocks])), (hp1, .inr (1, [.ref hp1_memory, .int p1_size, .ref hp1_stack, .int p1_depth, .ref hp1_starts, .ref hp1_lengths, .int p1_blocks])), (hp1_memory, .inl (E.1, 512, .inl p1_memory)), (hp0_memory, .inl (E.1, 512, .inl p0_memory)), (hp1_stack, .inl (E.1, 40, .inl p1_stack)), (hp0_stack, .inl (E.1, 40, .inl p0_stack)), (hp1_starts, .inl (E.1, 8, .inl p1_starts)), (hp0_starts, .inl (E.1, 8, .inl p0_starts)), (hp1_lengths, .inl (E.1, 8, .inl p1_lengths)), (hp0_lengths, .inl (E.1, 8, .inl p0_lengths))] (fun a => [(hp0, .inr (1, [.ref hp0_memory, .int o1, .ref hp0_stack, .int o3, .ref hp0_starts, .ref hp0_lengths, .int o6])), (hp1, .inr (1, [.ref hp1_memory, .int p1_size, .ref hp1_stack, .int p1_depth, .ref hp1_starts, .ref hp1_lengths, .int p1_blocks])), (hp1_memory, .inl (E.1, 512, .inl p1_memory)), (hp0_memory, .inl (E.1, 512, .inl o0)), (hp1_stack, .inl (E.1, 40, .inl p1_stack)), (hp0_stack, .inl (E.1, 40, .inl o2)), (hp1_starts, .inl (E.1, 8, .inl p1_starts)), (hp0_starts, .inl (E.1, 8, .inl o4)), (hp1_lengths, .inl (E.1, 8, .inl p1_lengths)), (hp0_lengths, .inl (E.1, 8, .inl o5))]) 0 0 := by
  refine MV_of (by decide) (Nat.le_of_ble_eq_true rfl) ?_
  intro p e s m args below meth c A Q hx hb hml hown hin hts hK hA hP hD hS ret ls hl
  replace ret : ∀ (R : ((Nat → Int32) × Int32 × (Nat → Int32) × Int32 × (Nat → Int32) × (Nat → Int32) × Int32)), R = (o0, o1, o2, o3, o4, o5, o6) → ∀ (H : Heap) (locs : List Loc) (pc : Nat) (ls : Array Slot) (a : Nat → Nat), va_P G vwCl [(hp0, .inr (1, [.ref hp0_memory, .int R.2.1, .ref hp0_stack, .int R.2.2.2.1, .ref hp0_starts, .ref hp0_lengths, .int R.2.2.2.2.2.2])), (hp1, .inr (1, [.ref hp1_memory, .int p1_size, .ref hp1_stack, .int p1_depth, .ref hp1_starts, .ref hp1_lengths, .int p1_blocks])), (hp1_memory, .inl (E.1, 512, .inl p1_memory)), (hp0_memory, .inl (E.1, 512, .inl R.1)), (hp1_stack, .inl (E.1, 40, .inl p1_stack)), (hp0_stack, .inl (E.1, 40, .inl R.2.2.1)), (hp1_starts, .inl (E.1, 8, .inl p1_starts)), (hp0_starts, .inl (E.1, 8, .inl R.2.2.2.2.1)), (hp1_lengths, .inl (E.1, 8, .inl p1_lengths)), (hp0_lengths, .inl (E.1, 8, .inl R.2.2.2.2.2.1))] H → va_D A [(hp0, .inr (1, [.ref hp0_memory, .int R.2.1, .ref hp0_stack, .int R.2.2.2.1, .ref hp0_starts, .ref hp0_lengths, .int R.2.2.2.2.2.2])), (hp1, .inr (1, [.ref hp1_memory, .int p1_size, .ref hp1_stack, .int p1_depth, .ref hp1_starts, .ref hp1_lengths, .int p1_blocks])), (hp1_memory, .inl (E.1, 512, .inl p1_memory)), (hp0_memory, .inl (E.1, 512, .inl R.1)), (hp1_stack, .inl (E.1, 40, .inl p1_stack)), (hp0_stack, .inl (E.1, 40, .inl R.2.2.1)), (hp1_starts, .inl (E.1, 8, .inl p1_starts)), (hp0_starts, .inl (E.1, 8, .inl R.2.2.2.2.1)), (hp1_lengths, .inl (E.1, 8, .inl p1_lengths)), (hp0_lengths, .inl (E.1, 8, .inl R.2.2.2.2.2.1))] → va_S A s.heap H locs → decode cX1_become pc = .ok (.return_, 1) → W p l e w_rm_X1_become s m args below meth c H locs 0 0 Q (F0 m pc ls []) := by
    intro R hR
    subst hR
    exact ret
  replace hl : lv_has ls 7 [(0, .ref hp0), (1, .ref hp1), (2, .int i2), (3, .int i3)] := hl
  unfold f_X1_become at h
  refine lv_aload_n hx hb dX1_become_0 rfl (lv_at hl 0 rfl) ?_
  refine getF (D := G) (ci := 1) (v := .int p0_size) (C := RX1) (T := TX1) (N := 7) hx hb hts inG_X1 hown hK.1 hP 0 rfl rfl 1 (by decide) tf_X1_1 (hts _ wd_41c784e1) rfl dX1_become_1 ?_
  refine lv_aload_n hx hb dX1_become_4 rfl (lv_at hl 1 rfl) ?_
  refine getF (D := G) (ci := 1) (v := .int p1_size) (C := RX1) (T := TX1) (N := 7) hx hb hts inG_X1 hown hK.1 hP 1 rfl rfl 1 (by decide) tf_X1_1 (hts _ wd_41c784e1) rfl dX1_become_5 ?_
  refine va_mmin hx hb (hml.trans hl.1.symm) hown (hts _ wd_21690256) (hts _ wd_dd3c6667) (hts _ wd_c6cef573) (hts _ wd_81dd359d) (Nat.le_of_ble_eq_true rfl) (Nat.le_of_ble_eq_true rfl) (Nat.le_of_ble_eq_true rfl) (Nat.le_of_ble_eq_true rfl) dX1_become_8 ?_
  refine W.eq (g2 := F0 m 11 ls [.int (i_min p0_size p1_size)]) rfl ?_
  refine lv_topi (fun x1 ex1 => ?_)
  replace h := bn_t h ex1
  refine lv_istore (lv' := [(4, .int x1), (0, .ref hp0), (1, .ref hp1), (2, .int i2), (3, .int i3)]) hx hb dX1_become_11 hl (by decide) rfl (fun ls hl => ?_)
  refine lv_iconst (v := 0) hx hb dX1_become_13 (by decide) ?_
  refine lv_istore (lv' := [(5, .int (0 : Int32)), (4, .int x1), (0, .ref hp0), (1, .ref hp1), (2, .int i2), (3, .int i3)]) hx hb dX1_become_14 hl (by decide) rfl (fun ls hl => ?_)
  have hL16 : ∀ (K84 : (Nat → Int32) → Int32 → Option ((Nat → Int32) × Int32 × (Nat → Int32) × Int32 × (Nat → Int32) × (Nat → Int32) × Int32)), (∀ (z2 : (Nat → Int32)) (z3 : Int32), K84 z2 z3 = some (o0, o1, o2, o3, o4, o5, o6) → ∀ (H : Heap) (locs : List Loc) (ls : Array Slot), va_P G vwCl [(hp0, .inr (1, [.ref hp0_memory, .int p0_size, .ref hp0_stack, .int p0_depth, .ref hp0_starts, .ref hp0_lengths, .int p0_blocks])), (hp1, .inr (1, [.ref hp1_memory, .int p1_size, .ref hp1_stack, .int p1_depth, .ref hp1_starts, .ref hp1_lengths, .int p1_blocks])), (hp1_memory, .inl (E.1, 512, .inl p1_memory)), (hp0_memory, .inl (E.1, 512, .inl z2)), (hp1_stack, .inl (E.1, 40, .inl p1_stack)), (hp0_stack, .inl (E.1, 40, .inl p0_stack)), (hp1_starts, .inl (E.1, 8, .inl p1_starts)), (hp0_starts, .inl (E.1, 8, .inl p0_starts)), (hp1_lengths, .inl (E.1, 8, .inl p1_lengths)), (hp0_lengths, .inl (E.1, 8, .inl p0_lengths))] H → va_D A [(hp0, .inr (1, [.ref hp0_memory, .int p0_size, .ref hp0_stack, .int p0_depth, .ref hp0_starts, .ref hp0_lengths, .int p0_blocks])), (hp1, .inr (1, [.ref hp1_memory, .int p1_size, .ref hp1_stack, .int p1_depth, .ref hp1_starts, .ref hp1_lengths, .int p1_blocks])), (hp1_memory, .inl (E.1, 512, .inl p1_memory)), (hp0_memory, .inl (E.1, 512, .inl z2)), (hp1_stack, .inl (E.1, 40, .inl p1_stack)), (hp0_stack, .inl (E.1, 40, .inl p0_stack)), (hp1_starts, .inl (E.1, 8, .inl p1_starts)), (hp0_starts, .inl (E.1, 8, .inl p0_starts)), (hp1_lengths, .inl (E.1, 8, .inl p1_lengths)), (hp0_lengths, .inl (E.1, 8, .inl p0_lengths))] → va_S A s.heap H locs → lv_has ls 7 [(0, .ref hp0), (1, .ref hp1)] → W p l e w_rm_X1_become s m args below meth c H locs 0 0 Q (F0 m 84 ls [])) → ∀ (n : Nat) (z2 : (Nat → Int32)) (z3 : Int32), L_X1_become_16 i2 i3 p1_size p1_memory x1 K84 n z2 z3 = some (o0, o1, o2, o3, o4, o5, o6) → ∀ (H : Heap) (locs : List Loc) (ls : Array Slot), va_P G vwCl [(hp0, .inr (1, [.ref hp0_memory, .int p0_size, .ref hp0_stack, .int p0_depth, .ref hp0_starts, .ref hp0_lengths, .int p0_blocks])), (hp1, .inr (1, [.ref hp1_memory, .int p1_size, .ref hp1_stack, .int p1_depth, .ref hp1_starts, .ref hp1_lengths, .int p1_blocks])), (hp1_memory, .inl (E.1, 512, .inl p1_memory)), (hp0_memory, .inl (E.1, 512, .inl z2)), (hp1_stack, .inl (E.1, 40, .inl p1_stack)), (hp0_stack, .inl (E.1, 40, .inl p0_stack)), (hp1_starts, .inl (E.1, 8, .inl p1_starts)), (hp0_starts, .inl (E.1, 8, .inl p0_starts)), (hp1_lengths, .inl (E.1, 8, .inl p1_lengths)), (hp0_lengths, .inl (E.1, 8, .inl p0_lengths))] H → va_D A [(hp0, .inr (1, [.ref hp0_memory, .int p0_size, .ref hp0_stack, .int p0_depth, .ref hp0_starts, .ref hp0_lengths, .int p0_blocks])), (hp1, .inr (1, [.ref hp1_memory, .int p1_size, .ref hp1_stack, .int p1_depth, .ref hp1_starts, .ref hp1_lengths, .int p1_blocks])), (hp1_memory, .inl (E.1, 512, .inl p1_memory)), (hp0_memory, .inl (E.1, 512, .inl z2)), (hp1_stack, .inl (E.1, 40, .inl p1_stack)), (hp0_stack, .inl (E.1, 40, .inl p0_stack)), (hp1_starts, .inl (E.1, 8, .inl p1_starts)), (hp0_starts, .inl (E.1, 8, .inl p0_starts)), (hp1_lengths, .inl (E.1, 8, .inl p1_lengths)), (hp0_lengths, .inl (E.1, 8, .inl p0_lengths))] → va_S A s.heap H locs → lv_has ls 7 [(0, .ref hp0), (1, .ref hp1), (2, .int i2), (3, .int i3), (4, .int x1), (5, .int z3)] → W p l e w_rm_X1_become s m args below meth c H locs 0 0 Q (F0 m 16 ls []) := by
    intro K84 hK84 n
    induction n with
    | zero =>
      intro z2 z3 h
      replace h : (none : Option ((Nat → Int32) × Int32 × (Nat → Int32) × Int32 × (Nat → Int32) × (Nat → Int32) × Int32)) = some (o0, o1, o2, o3, o4, o5, o6) := h
      cases h
    | succ n ih =>
      intro z2 z3 h H locs ls hP hD hS hl
      replace h : B_X1_become_16 i2 i3 p1_size p1_memory x1 (fun z2 z3 => L_X1_become_16 i2 i3 p1_size p1_memory x1 K84 n z2 z3) K84 z2 z3 = some (o0, o1, o2, o3, o4, o5, o6) := h
      obtain ⟨rec16, hrec16⟩ : ∃ f : (Nat → Int32) → Int32 → Option ((Nat → Int32) × Int32 × (Nat → Int32) × Int32 × (Nat → Int32) × (Nat → Int32) × Int32), f = (fun z2 z3 => L_X1_become_16 i2 i3 p1_size p1_memory x1 K84 n z2 z3) := ⟨_, rfl⟩
      rw [← hrec16] at h
      unfold B_X1_become_16 at h
      refine lv_iload hx hb dX1_become_16 (lv_at hl 5 rfl) ?_
      refine lv_aload_n hx hb dX1_become_18 rfl (lv_at hl 1 rfl) ?_
      refine getF (D := G) (ci := 1) (v := .int p1_size) (C := RX1) (T := TX1) (N := 7) hx hb hts inG_X1 hown hK.1 hP 1 rfl rfl 1 (by decide) tf_X1_1 (hts _ wd_41c784e1) rfl dX1_become_19 ?_
      refine lv_icmp_ge (tgt := 84) hx hb dX1_become_22 (by decide) (fun c4 => ?_) (fun c4 => ?_)
      · replace h := if_t h c4
        exact hK84 z2 z3 h _ _ _ hP hD hS (lv_sub hl [0, 1] rfl)
      · replace h := if_f h c4
        refine lv_iload hx hb dX1_become_25 (lv_at hl 5 rfl) ?_
        refine lv_sipush (v := 512) hx hb dX1_become_27 (by decide) ?_
        refine lv_icmp_ge (tgt := 84) hx hb dX1_become_30 (by decide) (fun c5 => ?_) (fun c5 => ?_)
        · replace h := if_t h c5
          exact hK84 z2 z3 h _ _ _ hP hD hS (lv_sub hl [0, 1] rfl)
        · replace h := if_f h c5
          refine lv_iload hx hb dX1_become_33 (lv_at hl 5 rfl) ?_
          refine lv_iload_n hx hb dX1_become_35 rfl (lv_at hl 2 rfl) ?_
          have hJ57 : ∀ (y7 : Int32), J_X1_become_57 p1_memory z2 z3 rec16 y7 = some (o0, o1, o2, o3, o4, o5, o6) → ∀ (H : Heap) (locs : List Loc) (ls : Array Slot), va_P G vwCl [(hp0, .inr (1, [.ref hp0_memory, .int p0_size, .ref hp0_stack, .int p0_depth, .ref hp0_starts, .ref hp0_lengths, .int p0_blocks])), (hp1, .inr (1, [.ref hp1_memory, .int p1_size, .ref hp1_stack, .int p1_depth, .ref hp1_starts, .ref hp1_lengths, .int p1_blocks])), (hp1_memory, .inl (E.1, 512, .inl p1_memory)), (hp0_memory, .inl (E.1, 512, .inl z2)), (hp1_stack, .inl (E.1, 40, .inl p1_stack)), (hp0_stack, .inl (E.1, 40, .inl p0_stack)), (hp1_starts, .inl (E.1, 8, .inl p1_starts)), (hp0_starts, .inl (E.1, 8, .inl p0_starts)), (hp1_lengths, .inl (E.1, 8, .inl p1_lengths)), (hp0_lengths, .inl (E.1, 8, .inl p0_lengths))] H → va_D A [(hp0, .inr (1, [.ref hp0_memory, .int p0_size, .ref hp0_stack, .int p0_depth, .ref hp0_starts, .ref hp0_lengths, .int p0_blocks])), (hp1, .inr (1, [.ref hp1_memory, .int p1_size, .ref hp1_stack, .int p1_depth, .ref hp1_starts, .ref hp1_lengths, .int p1_blocks])), (hp1_memory, .inl (E.1, 512, .inl p1_memory)), (hp0_memory, .inl (E.1, 512, .inl z2)), (hp1_stack, .inl (E.1, 40, .inl p1_stack)), (hp0_stack, .inl (E.1, 40, .inl p0_stack)), (hp1_starts, .inl (E.1, 8, .inl p1_starts)), (hp0_starts, .inl (E.1, 8, .inl p0_starts)), (hp1_lengths, .inl (E.1, 8, .inl p1_lengths)), (hp0_lengths, .inl (E.1, 8, .inl p0_lengths))] → va_S A s.heap H locs → lv_has ls 7 [(0, .ref hp0), (1, .ref hp1), (2, .int i2), (3, .int i3), (4, .int x1), (5, .int z3)] → W p l e w_rm_X1_become s m args below meth c H locs 0 0 Q (F0 m 57 ls [.int y7]) := by
            intro y7 h H locs ls hP hD hS hl
            unfold J_X1_become_57 at h
            refine lv_istore (lv' := [(6, .int y7), (0, .ref hp0), (1, .ref hp1), (2, .int i2), (3, .int i3), (4, .int x1), (5, .int z3)]) hx hb dX1_become_57 hl (by decide) rfl (fun ls hl => ?_)
            refine lv_iload hx hb dX1_become_59 (lv_at hl 0 rfl) ?_
            have hJ78 : ∀ (y9 : (Nat → Int32)), J_X1_become_78 z3 rec16 y9 = some (o0, o1, o2, o3, o4, o5, o6) → ∀ (H : Heap) (locs : List Loc) (ls : Array Slot), va_P G vwCl [(hp0, .inr (1, [.ref hp0_memory, .int p0_size, .ref hp0_stack, .int p0_depth, .ref hp0_starts, .ref hp0_lengths, .int p0_blocks])), (hp1, .inr (1, [.ref hp1_memory, .int p1_size, .ref hp1_stack, .int p1_depth, .ref hp1_starts, .ref hp1_lengths, .int p1_blocks])), (hp1_memory, .inl (E.1, 512, .inl p1_memory)), (hp0_memory, .inl (E.1, 512, .inl y9)), (hp1_stack, .inl (E.1, 40, .inl p1_stack)), (hp0_stack, .inl (E.1, 40, .inl p0_stack)), (hp1_starts, .inl (E.1, 8, .inl p1_starts)), (hp0_starts, .inl (E.1, 8, .inl p0_starts)), (hp1_lengths, .inl (E.1, 8, .inl p1_lengths)), (hp0_lengths, .inl (E.1, 8, .inl p0_lengths))] H → va_D A [(hp0, .inr (1, [.ref hp0_memory, .int p0_size, .ref hp0_stack, .int p0_depth, .ref hp0_starts, .ref hp0_lengths, .int p0_blocks])), (hp1, .inr (1, [.ref hp1_memory, .int p1_size, .ref hp1_stack, .int p1_depth, .ref hp1_starts, .ref hp1_lengths, .int p1_blocks])), (hp1_memory, .inl (E.1, 512, .inl p1_memory)), (hp0_memory, .inl (E.1, 512, .inl y9)), (hp1_stack, .inl (E.1, 40, .inl p1_stack)), (hp0_stack, .inl (E.1, 40, .inl p0_stack)), (hp1_starts, .inl (E.1, 8, .inl p1_starts)), (hp0_starts, .inl (E.1, 8, .inl p0_starts)), (hp1_lengths, .inl (E.1, 8, .inl p1_lengths)), (hp0_lengths, .inl (E.1, 8, .inl p0_lengths))] → va_S A s.heap H locs → lv_has ls 7 [(0, .ref hp0), (1, .ref hp1), (2, .int i2), (3, .int i3), (4, .int x1), (5, .int z3)] → W p l e w_rm_X1_become s m args below meth c H locs 0 0 Q (F0 m 78 ls []) := by
              intro y9 h H locs ls hP hD hS hl
              unfold J_X1_become_78 at h
              obtain ⟨x10, ex10⟩ : ∃ y : Int32, y = z3 + 1 := ⟨_, rfl⟩
              replace h := bn_t h ex10
              refine lv_iinc (v := x10) (lv' := [(5, .int x10), (0, .ref hp0), (1, .ref hp1), (2, .int i2), (3, .int i3), (4, .int x1)]) hx hb dX1_become_78 hl (k := 5) rfl (by rw [ex10]; rfl) (by decide) rfl (fun ls hl => ?_)
              refine lv_goto (tgt := 16) hx hb dX1_become_81 (by decide) ?_
              exact ih y9 x10 (by rw [hrec16] at h; exact h) _ _ _ hP hD hS (lv_sub hl [1, 2, 3, 4, 5, 0] rfl)
            refine lv_if_ne (tgt := 78) hx hb dX1_become_61 (by decide) (fun c8 => ?_) (fun c8 => ?_)
            · replace h := if_f h c8
              exact hJ78 z2 h _ _ _ hP hD hS (lv_sub hl [1, 2, 3, 4, 5, 6] rfl)
            · replace h := if_t h c8
              refine lv_aload_n hx hb dX1_become_64 rfl (lv_at hl 1 rfl) ?_
              refine getF (D := G) (ci := 1) (v := .ref hp0_memory) (C := RX1) (T := TX1) (N := 7) hx hb hts inG_X1 hown hK.1 hP 0 rfl rfl 0 (by decide) tf_X1_0 (hts _ wd_78089881) rfl dX1_become_65 ?_
              refine lv_iload hx hb dX1_become_68 (lv_at hl 6 rfl) ?_
              refine lv_aload_n hx hb dX1_become_70 rfl (lv_at hl 2 rfl) ?_
              refine getF (D := G) (ci := 1) (v := .ref hp1_memory) (C := RX1) (T := TX1) (N := 7) hx hb hts inG_X1 hown hK.1 hP 1 rfl rfl 0 (by decide) tf_X1_0 (hts _ wd_78089881) rfl dX1_become_71 ?_
              refine lv_iload hx hb dX1_become_74 (lv_at hl 6 rfl) ?_
              obtain ⟨g11, h⟩ := gin_t h
              refine va_iald hx hb hK.1 hP 2 0 rfl rfl g11 dX1_become_76 ?_
              refine lv_topi (fun x12 ex12 => ?_)
              replace h := bn_t h ex12
              obtain ⟨g13, h⟩ := gin_t h
              refine va_iast hx hb hK.1 hP hD hS 3 0 rfl rfl g13 dX1_become_77 (fun H locs hP hD hS => ?_)
              have hP : va_P G vwCl [(hp0, .inr (1, [.ref hp0_memory, .int p0_size, .ref hp0_stack, .int p0_depth, .ref hp0_starts, .ref hp0_lengths, .int p0_blocks])), (hp1, .inr (1, [.ref hp1_memory, .int p1_size, .ref hp1_stack, .int p1_depth, .ref hp1_starts, .ref hp1_lengths, .int p1_blocks])), (hp1_memory, .inl (E.1, 512, .inl p1_memory)), (hp0_memory, .inl (E.1, 512, .inl (upd z2 z3.toNatClampNeg x12))), (hp1_stack, .inl (E.1, 40, .inl p1_stack)), (hp0_stack, .inl (E.1, 40, .inl p0_stack)), (hp1_starts, .inl (E.1, 8, .inl p1_starts)), (hp0_starts, .inl (E.1, 8, .inl p0_starts)), (hp1_lengths, .inl (E.1, 8, .inl p1_lengths)), (hp0_lengths, .inl (E.1, 8, .inl p0_lengths))] H := hP
              have hD : va_D A [(hp0, .inr (1, [.ref hp0_memory, .int p0_size, .ref hp0_stack, .int p0_depth, .ref hp0_starts, .ref hp0_lengths, .int p0_blocks])), (hp1, .inr (1, [.ref hp1_memory, .int p1_size, .ref hp1_stack, .int p1_depth, .ref hp1_starts, .ref hp1_lengths, .int p1_blocks])), (hp1_memory, .inl (E.1, 512, .inl p1_memory)), (hp0_memory, .inl (E.1, 512, .inl (upd z2 z3.toNatClampNeg x12))), (hp1_stack, .inl (E.1, 40, .inl p1_stack)), (hp0_stack, .inl (E.1, 40, .inl p0_stack)), (hp1_starts, .inl (E.1, 8, .inl p1_starts)), (hp0_starts, .inl (E.1, 8, .inl p0_starts)), (hp1_lengths, .inl (E.1, 8, .inl p1_lengths)), (hp0_lengths, .inl (E.1, 8, .inl p0_lengths))] := hD
              obtain ⟨m14, em14⟩ : ∃ y : Nat → Int32, y = upd z2 z3.toNatClampNeg x12 := ⟨_, rfl⟩
              replace h := bn_t h em14
              rw [← em14] at hP hD
              exact hJ78 m14 h _ _ _ hP hD hS (lv_sub hl [1, 2, 3, 4, 5, 6] rfl)
          have hJ56 : ∀ (_ : Unit), J_X1_become_56 p1_memory z2 z3 rec16 = some (o0, o1, o2, o3, o4, o5, o6) → ∀ (H : Heap) (locs : List Loc) (ls : Array Slot), va_P G vwCl [(hp0, .inr (1, [.ref hp0_memory, .int p0_size, .ref hp0_stack, .int p0_depth, .ref hp0_starts, .ref hp0_lengths, .int p0_blocks])), (hp1, .inr (1, [.ref hp1_memory, .int p1_size, .ref hp1_stack, .int p1_depth, .ref hp1_starts, .ref hp1_lengths, .int p1_blocks])), (hp1_memory, .inl (E.1, 512, .inl p1_memory)), (hp0_memory, .inl (E.1, 512, .inl z2)), (hp1_stack, .inl (E.1, 40, .inl p1_stack)), (hp0_stack, .inl (E.1, 40, .inl p0_stack)), (hp1_starts, .inl (E.1, 8, .inl p1_starts)), (hp0_starts, .inl (E.1, 8, .inl p0_starts)), (hp1_lengths, .inl (E.1, 8, .inl p1_lengths)), (hp0_lengths, .inl (E.1, 8, .inl p0_lengths))] H → va_D A [(hp0, .inr (1, [.ref hp0_memory, .int p0_size, .ref hp0_stack, .int p0_depth, .ref hp0_starts, .ref hp0_lengths, .int p0_blocks])), (hp1, .inr (1, [.ref hp1_memory, .int p1_size, .ref hp1_stack, .int p1_depth, .ref hp1_starts, .ref hp1_lengths, .int p1_blocks])), (hp1_memory, .inl (E.1, 512, .inl p1_memory)), (hp0_memory, .inl (E.1, 512, .inl z2)), (hp1_stack, .inl (E.1, 40, .inl p1_stack)), (hp0_stack, .inl (E.1, 40, .inl p0_stack)), (hp1_starts, .inl (E.1, 8, .inl p1_starts)), (hp0_starts, .inl (E.1, 8, .inl p0_starts)), (hp1_lengths, .inl (E.1, 8, .inl p1_lengths)), (hp0_lengths, .inl (E.1, 8, .inl p0_lengths))] → va_S A s.heap H locs → lv_has ls 7 [(0, .ref hp0), (1, .ref hp1), (2, .int i2), (3, .int i3), (4, .int x1), (5, .int z3)] → W p l e w_rm_X1_become s m args below meth c H locs 0 0 Q (F0 m 56 ls []) := by
            intro _ h H locs ls hP hD hS hl
            unfold J_X1_become_56 at h
            refine lv_iconst (v := 0) hx hb dX1_become_56 (by decide) ?_
            exact hJ57 (0 : Int32) h _ _ _ hP hD hS hl
          refine lv_icmp_lt (tgt := 56) hx hb dX1_become_36 (by decide) (fun c6 => ?_) (fun c6 => ?_)
          · replace h := if_t h c6
            exact hJ56 () h _ _ _ hP hD hS hl
          · replace h := if_f h c6
            refine lv_iload hx hb dX1_become_39 (lv_at hl 5 rfl) ?_
            refine lv_iload_n hx hb dX1_become_41 rfl (lv_at hl 3 rfl) ?_
            refine lv_icmp_ge (tgt := 56) hx hb dX1_become_42 (by decide) (fun c15 => ?_) (fun c15 => ?_)
            · replace h := if_t h c15
              exact hJ56 () h _ _ _ hP hD hS hl
            · replace h := if_f h c15
              refine lv_iload hx hb dX1_become_45 (lv_at hl 5 rfl) ?_
              refine lv_iload hx hb dX1_become_47 (lv_at hl 4 rfl) ?_
              refine lv_icmp_ge (tgt := 56) hx hb dX1_become_49 (by decide) (fun c16 => ?_) (fun c16 => ?_)
              · replace h := if_t h c16
                exact hJ56 () h _ _ _ hP hD hS hl
              · replace h := if_f h c16
                refine lv_iconst (v := 1) hx hb dX1_become_52 (by decide) ?_
                refine lv_goto (tgt := 57) hx hb dX1_become_53 (by decide) ?_
                exact hJ57 (1 : Int32) h _ _ _ hP hD hS hl
  refine hL16 _ (fun z2 z3 h H locs ls hP hD hS hl => ?_) N p0_memory (0 : Int32) h _ _ _ hP hD hS (lv_sub hl [2, 3, 4, 5, 1, 0] rfl)
  try dsimp only at h
  refine lv_aload_n hx hb dX1_become_84 rfl (lv_at hl 0 rfl) ?_
  refine lv_aload_n hx hb dX1_become_85 rfl (lv_at hl 1 rfl) ?_
  refine getF (D := G) (ci := 1) (v := .int p1_size) (C := RX1) (T := TX1) (N := 7) hx hb hts inG_X1 hown hK.1 hP 1 rfl rfl 1 (by decide) tf_X1_1 (hts _ wd_41c784e1) rfl dX1_become_86 ?_
  refine putF (D := G) (ci := 1) (v := .int p1_size) (ty := .int) (C := RX1) (T := TX1) (N := 7) hx hb hts inG_X1 tyX1 tyX1_ok nmX1 hown hK.1 hP hD hS 0 rfl rfl 1 (by decide) tf_X1_1 (hts _ wd_41c784e1) pd_I rfl rfl (Nat.le_of_ble_eq_true rfl) dX1_become_89 (fun H locs hP hD hS => ?_)
  have hP : va_P G vwCl [(hp0, .inr (1, [.ref hp0_memory, .int p1_size, .ref hp0_stack, .int p0_depth, .ref hp0_starts, .ref hp0_lengths, .int p0_blocks])), (hp1, .inr (1, [.ref hp1_memory, .int p1_size, .ref hp1_stack, .int p1_depth, .ref hp1_starts, .ref hp1_lengths, .int p1_blocks])), (hp1_memory, .inl (E.1, 512, .inl p1_memory)), (hp0_memory, .inl (E.1, 512, .inl z2)), (hp1_stack, .inl (E.1, 40, .inl p1_stack)), (hp0_stack, .inl (E.1, 40, .inl p0_stack)), (hp1_starts, .inl (E.1, 8, .inl p1_starts)), (hp0_starts, .inl (E.1, 8, .inl p0_starts)), (hp1_lengths, .inl (E.1, 8, .inl p1_lengths)), (hp0_lengths, .inl (E.1, 8, .inl p0_lengths))] H := hP
  have hD : va_D A [(hp0, .inr (1, [.ref hp0_memory, .int p1_size, .ref hp0_stack, .int p0_depth, .ref hp0_starts, .ref hp0_lengths, .int p0_blocks])), (hp1, .inr (1, [.ref hp1_memory, .int p1_size, .ref hp1_stack, .int p1_depth, .ref hp1_starts, .ref hp1_lengths, .int p1_blocks])), (hp1_memory, .inl (E.1, 512, .inl p1_memory)), (hp0_memory, .inl (E.1, 512, .inl z2)), (hp1_stack, .inl (E.1, 40, .inl p1_stack)), (hp0_stack, .inl (E.1, 40, .inl p0_stack)), (hp1_starts, .inl (E.1, 8, .inl p1_starts)), (hp0_starts, .inl (E.1, 8, .inl p0_starts)), (hp1_lengths, .inl (E.1, 8, .inl p1_lengths)), (hp0_lengths, .inl (E.1, 8, .inl p0_lengths))] := hD
  refine lv_aload_n hx hb dX1_become_92 rfl (lv_at hl 1 rfl) ?_
  refine getF (D := G) (ci := 1) (v := .ref hp1_stack) (C := RX1) (T := TX1) (N := 7) hx hb hts inG_X1 hown hK.1 hP 1 rfl rfl 2 (by decide) tf_X1_2 (hts _ wd_4041e156) rfl dX1_become_93 ?_
  refine lv_iconst (v := 0) hx hb dX1_become_96 (by decide) ?_
  refine lv_aload_n hx hb dX1_become_97 rfl (lv_at hl 0 rfl) ?_
  refine getF (D := G) (ci := 1) (v := .ref hp0_stack) (C := RX1) (T := TX1) (N := 7) hx hb hts inG_X1 hown hK.1 hP 0 rfl rfl 2 (by decide) tf_X1_2 (hts _ wd_4041e156) rfl dX1_become_98 ?_
  refine lv_iconst (v := 0) hx hb dX1_become_101 (by decide) ?_
  refine lv_bipush (v := 40) hx hb dX1_become_102 (by decide) ?_
  refine va_copyi hx hb (hml.trans hl.1.symm) hown (hts _ wd_18b61737) (hts _ wd_b8e2a615) (hts _ wd_0f5f9aba) (hts _ wd_4e16621c) hK.1 hP hD hS 4 5 0 0 rfl rfl rfl rfl rfl (by decide) (by decide) (by decide) (by decide) (by decide) (fun _ _ => rfl) (Nat.le_of_ble_eq_true rfl) (by decide +kernel) dX1_become_104 (fun H locs hP hD hS => ?_)
  have hP : va_P G vwCl [(hp0, .inr (1, [.ref hp0_memory, .int p1_size, .ref hp0_stack, .int p0_depth, .ref hp0_starts, .ref hp0_lengths, .int p0_blocks])), (hp1, .inr (1, [.ref hp1_memory, .int p1_size, .ref hp1_stack, .int p1_depth, .ref hp1_starts, .ref hp1_lengths, .int p1_blocks])), (hp1_memory, .inl (E.1, 512, .inl p1_memory)), (hp0_memory, .inl (E.1, 512, .inl z2)), (hp1_stack, .inl (E.1, 40, .inl p1_stack)), (hp0_stack, .inl (E.1, 40, .inl (va_cpy p1_stack p0_stack (0 : Int32).toNatClampNeg (0 : Int32).toNatClampNeg (40 : Int32).toNatClampNeg))), (hp1_starts, .inl (E.1, 8, .inl p1_starts)), (hp0_starts, .inl (E.1, 8, .inl p0_starts)), (hp1_lengths, .inl (E.1, 8, .inl p1_lengths)), (hp0_lengths, .inl (E.1, 8, .inl p0_lengths))] H := hP
  have hD : va_D A [(hp0, .inr (1, [.ref hp0_memory, .int p1_size, .ref hp0_stack, .int p0_depth, .ref hp0_starts, .ref hp0_lengths, .int p0_blocks])), (hp1, .inr (1, [.ref hp1_memory, .int p1_size, .ref hp1_stack, .int p1_depth, .ref hp1_starts, .ref hp1_lengths, .int p1_blocks])), (hp1_memory, .inl (E.1, 512, .inl p1_memory)), (hp0_memory, .inl (E.1, 512, .inl z2)), (hp1_stack, .inl (E.1, 40, .inl p1_stack)), (hp0_stack, .inl (E.1, 40, .inl (va_cpy p1_stack p0_stack (0 : Int32).toNatClampNeg (0 : Int32).toNatClampNeg (40 : Int32).toNatClampNeg))), (hp1_starts, .inl (E.1, 8, .inl p1_starts)), (hp0_starts, .inl (E.1, 8, .inl p0_starts)), (hp1_lengths, .inl (E.1, 8, .inl p1_lengths)), (hp0_lengths, .inl (E.1, 8, .inl p0_lengths))] := hD
  obtain ⟨m17, em17⟩ : ∃ y : Nat → Int32, y = va_cpy p1_stack p0_stack (0 : Int32).toNatClampNeg (0 : Int32).toNatClampNeg (40 : Int32).toNatClampNeg := ⟨_, rfl⟩
  replace h := bn_t h em17
  rw [← em17] at hP hD
  refine lv_aload_n hx hb dX1_become_107 rfl (lv_at hl 0 rfl) ?_
  refine lv_aload_n hx hb dX1_become_108 rfl (lv_at hl 1 rfl) ?_
  refine getF (D := G) (ci := 1) (v := .int p1_depth) (C := RX1) (T := TX1) (N := 7) hx hb hts inG_X1 hown hK.1 hP 1 rfl rfl 3 (by decide) tf_X1_3 (hts _ wd_20db0b98) rfl dX1_become_109 ?_
  refine putF (D := G) (ci := 1) (v := .int p1_depth) (ty := .int) (C := RX1) (T := TX1) (N := 7) hx hb hts inG_X1 tyX1 tyX1_ok nmX1 hown hK.1 hP hD hS 0 rfl rfl 3 (by decide) tf_X1_3 (hts _ wd_20db0b98) pd_I rfl rfl (Nat.le_of_ble_eq_true rfl) dX1_become_112 (fun H locs hP hD hS => ?_)
  have hP : va_P G vwCl [(hp0, .inr (1, [.ref hp0_memory, .int p1_size, .ref hp0_stack, .int p1_depth, .ref hp0_starts, .ref hp0_lengths, .int p0_blocks])), (hp1, .inr (1, [.ref hp1_memory, .int p1_size, .ref hp1_stack, .int p1_depth, .ref hp1_starts, .ref hp1_lengths, .int p1_blocks])), (hp1_memory, .inl (E.1, 512, .inl p1_memory)), (hp0_memory, .inl (E.1, 512, .inl z2)), (hp1_stack, .inl (E.1, 40, .inl p1_stack)), (hp0_stack, .inl (E.1, 40, .inl m17)), (hp1_starts, .inl (E.1, 8, .inl p1_starts)), (hp0_starts, .inl (E.1, 8, .inl p0_starts)), (hp1_lengths, .inl (E.1, 8, .inl p1_lengths)), (hp0_lengths, .inl (E.1, 8, .inl p0_lengths))] H := hP
  have hD : va_D A [(hp0, .inr (1, [.ref hp0_memory, .int p1_size, .ref hp0_stack, .int p1_depth, .ref hp0_starts, .ref hp0_lengths, .int p0_blocks])), (hp1, .inr (1, [.ref hp1_memory, .int p1_size, .ref hp1_stack, .int p1_depth, .ref hp1_starts, .ref hp1_lengths, .int p1_blocks])), (hp1_memory, .inl (E.1, 512, .inl p1_memory)), (hp0_memory, .inl (E.1, 512, .inl z2)), (hp1_stack, .inl (E.1, 40, .inl p1_stack)), (hp0_stack, .inl (E.1, 40, .inl m17)), (hp1_starts, .inl (E.1, 8, .inl p1_starts)), (hp0_starts, .inl (E.1, 8, .inl p0_starts)), (hp1_lengths, .inl (E.1, 8, .inl p1_lengths)), (hp0_lengths, .inl (E.1, 8, .inl p0_lengths))] := hD
  refine lv_aload_n hx hb dX1_become_115 rfl (lv_at hl 1 rfl) ?_
  refine getF (D := G) (ci := 1) (v := .ref hp1_starts) (C := RX1) (T := TX1) (N := 7) hx hb hts inG_X1 hown hK.1 hP 1 rfl rfl 4 (by decide) tf_X1_4 (hts _ wd_30cca9c2) rfl dX1_become_116 ?_
  refine lv_iconst (v := 0) hx hb dX1_become_119 (by decide) ?_
  refine lv_aload_n hx hb dX1_become_120 rfl (lv_at hl 0 rfl) ?_
  refine getF (D := G) (ci := 1) (v := .ref hp0_starts) (C := RX1) (T := TX1) (N := 7) hx hb hts inG_X1 hown hK.1 hP 0 rfl rfl 4 (by decide) tf_X1_4 (hts _ wd_30cca9c2) rfl dX1_become_121 ?_
  refine lv_iconst (v := 0) hx hb dX1_become_124 (by decide) ?_
  refine lv_bipush (v := 8) hx hb dX1_become_125 (by decide) ?_
  refine va_copyi hx hb (hml.trans hl.1.symm) hown (hts _ wd_18b61737) (hts _ wd_b8e2a615) (hts _ wd_0f5f9aba) (hts _ wd_4e16621c) hK.1 hP hD hS 6 7 0 0 rfl rfl rfl rfl rfl (by decide) (by decide) (by decide) (by decide) (by decide) (fun _ _ => rfl) (Nat.le_of_ble_eq_true rfl) (by decide +kernel) dX1_become_127 (fun H locs hP hD hS => ?_)
  have hP : va_P G vwCl [(hp0, .inr (1, [.ref hp0_memory, .int p1_size, .ref hp0_stack, .int p1_depth, .ref hp0_starts, .ref hp0_lengths, .int p0_blocks])), (hp1, .inr (1, [.ref hp1_memory, .int p1_size, .ref hp1_stack, .int p1_depth, .ref hp1_starts, .ref hp1_lengths, .int p1_blocks])), (hp1_memory, .inl (E.1, 512, .inl p1_memory)), (hp0_memory, .inl (E.1, 512, .inl z2)), (hp1_stack, .inl (E.1, 40, .inl p1_stack)), (hp0_stack, .inl (E.1, 40, .inl m17)), (hp1_starts, .inl (E.1, 8, .inl p1_starts)), (hp0_starts, .inl (E.1, 8, .inl (va_cpy p1_starts p0_starts (0 : Int32).toNatClampNeg (0 : Int32).toNatClampNeg (8 : Int32).toNatClampNeg))), (hp1_lengths, .inl (E.1, 8, .inl p1_lengths)), (hp0_lengths, .inl (E.1, 8, .inl p0_lengths))] H := hP
  have hD : va_D A [(hp0, .inr (1, [.ref hp0_memory, .int p1_size, .ref hp0_stack, .int p1_depth, .ref hp0_starts, .ref hp0_lengths, .int p0_blocks])), (hp1, .inr (1, [.ref hp1_memory, .int p1_size, .ref hp1_stack, .int p1_depth, .ref hp1_starts, .ref hp1_lengths, .int p1_blocks])), (hp1_memory, .inl (E.1, 512, .inl p1_memory)), (hp0_memory, .inl (E.1, 512, .inl z2)), (hp1_stack, .inl (E.1, 40, .inl p1_stack)), (hp0_stack, .inl (E.1, 40, .inl m17)), (hp1_starts, .inl (E.1, 8, .inl p1_starts)), (hp0_starts, .inl (E.1, 8, .inl (va_cpy p1_starts p0_starts (0 : Int32).toNatClampNeg (0 : Int32).toNatClampNeg (8 : Int32).toNatClampNeg))), (hp1_lengths, .inl (E.1, 8, .inl p1_lengths)), (hp0_lengths, .inl (E.1, 8, .inl p0_lengths))] := hD
  obtain ⟨m18, em18⟩ : ∃ y : Nat → Int32, y = va_cpy p1_starts p0_starts (0 : Int32).toNatClampNeg (0 : Int32).toNatClampNeg (8 : Int32).toNatClampNeg := ⟨_, rfl⟩
  replace h := bn_t h em18
  rw [← em18] at hP hD
  refine lv_aload_n hx hb dX1_become_130 rfl (lv_at hl 1 rfl) ?_
  refine getF (D := G) (ci := 1) (v := .ref hp1_lengths) (C := RX1) (T := TX1) (N := 7) hx hb hts inG_X1 hown hK.1 hP 1 rfl rfl 5 (by decide) tf_X1_5 (hts _ wd_2f64a7ae) rfl dX1_become_131 ?_
  refine lv_iconst (v := 0) hx hb dX1_become_134 (by decide) ?_
  refine lv_aload_n hx hb dX1_become_135 rfl (lv_at hl 0 rfl) ?_
  refine getF (D := G) (ci := 1) (v := .ref hp0_lengths) (C := RX1) (T := TX1) (N := 7) hx hb hts inG_X1 hown hK.1 hP 0 rfl rfl 5 (by decide) tf_X1_5 (hts _ wd_2f64a7ae) rfl dX1_become_136 ?_
  refine lv_iconst (v := 0) hx hb dX1_become_139 (by decide) ?_
  refine lv_bipush (v := 8) hx hb dX1_become_140 (by decide) ?_
  refine va_copyi hx hb (hml.trans hl.1.symm) hown (hts _ wd_18b61737) (hts _ wd_b8e2a615) (hts _ wd_0f5f9aba) (hts _ wd_4e16621c) hK.1 hP hD hS 8 9 0 0 rfl rfl rfl rfl rfl (by decide) (by decide) (by decide) (by decide) (by decide) (fun _ _ => rfl) (Nat.le_of_ble_eq_true rfl) (by decide +kernel) dX1_become_142 (fun H locs hP hD hS => ?_)
  have hP : va_P G vwCl [(hp0, .inr (1, [.ref hp0_memory, .int p1_size, .ref hp0_stack, .int p1_depth, .ref hp0_starts, .ref hp0_lengths, .int p0_blocks])), (hp1, .inr (1, [.ref hp1_memory, .int p1_size, .ref hp1_stack, .int p1_depth, .ref hp1_starts, .ref hp1_lengths, .int p1_blocks])), (hp1_memory, .inl (E.1, 512, .inl p1_memory)), (hp0_memory, .inl (E.1, 512, .inl z2)), (hp1_stack, .inl (E.1, 40, .inl p1_stack)), (hp0_stack, .inl (E.1, 40, .inl m17)), (hp1_starts, .inl (E.1, 8, .inl p1_starts)), (hp0_starts, .inl (E.1, 8, .inl m18)), (hp1_lengths, .inl (E.1, 8, .inl p1_lengths)), (hp0_lengths, .inl (E.1, 8, .inl (va_cpy p1_lengths p0_lengths (0 : Int32).toNatClampNeg (0 : Int32).toNatClampNeg (8 : Int32).toNatClampNeg)))] H := hP
  have hD : va_D A [(hp0, .inr (1, [.ref hp0_memory, .int p1_size, .ref hp0_stack, .int p1_depth, .ref hp0_starts, .ref hp0_lengths, .int p0_blocks])), (hp1, .inr (1, [.ref hp1_memory, .int p1_size, .ref hp1_stack, .int p1_depth, .ref hp1_starts, .ref hp1_lengths, .int p1_blocks])), (hp1_memory, .inl (E.1, 512, .inl p1_memory)), (hp0_memory, .inl (E.1, 512, .inl z2)), (hp1_stack, .inl (E.1, 40, .inl p1_stack)), (hp0_stack, .inl (E.1, 40, .inl m17)), (hp1_starts, .inl (E.1, 8, .inl p1_starts)), (hp0_starts, .inl (E.1, 8, .inl m18)), (hp1_lengths, .inl (E.1, 8, .inl p1_lengths)), (hp0_lengths, .inl (E.1, 8, .inl (va_cpy p1_lengths p0_lengths (0 : Int32).toNatClampNeg (0 : Int32).toNatClampNeg (8 : Int32).toNatClampNeg)))] := hD
  obtain ⟨m19, em19⟩ : ∃ y : Nat → Int32, y = va_cpy p1_lengths p0_lengths (0 : Int32).toNatClampNeg (0 : Int32).toNatClampNeg (8 : Int32).toNatClampNeg := ⟨_, rfl⟩
  replace h := bn_t h em19
  rw [← em19] at hP hD
  refine lv_aload_n hx hb dX1_become_145 rfl (lv_at hl 0 rfl) ?_
  refine lv_aload_n hx hb dX1_become_146 rfl (lv_at hl 1 rfl) ?_
  refine getF (D := G) (ci := 1) (v := .int p1_blocks) (C := RX1) (T := TX1) (N := 7) hx hb hts inG_X1 hown hK.1 hP 1 rfl rfl 6 (by decide) tf_X1_6 (hts _ wd_82724fa2) rfl dX1_become_147 ?_
  refine putF (D := G) (ci := 1) (v := .int p1_blocks) (ty := .int) (C := RX1) (T := TX1) (N := 7) hx hb hts inG_X1 tyX1 tyX1_ok nmX1 hown hK.1 hP hD hS 0 rfl rfl 6 (by decide) tf_X1_6 (hts _ wd_82724fa2) pd_I rfl rfl (Nat.le_of_ble_eq_true rfl) dX1_become_150 (fun H locs hP hD hS => ?_)
  have hP : va_P G vwCl [(hp0, .inr (1, [.ref hp0_memory, .int p1_size, .ref hp0_stack, .int p1_depth, .ref hp0_starts, .ref hp0_lengths, .int p1_blocks])), (hp1, .inr (1, [.ref hp1_memory, .int p1_size, .ref hp1_stack, .int p1_depth, .ref hp1_starts, .ref hp1_lengths, .int p1_blocks])), (hp1_memory, .inl (E.1, 512, .inl p1_memory)), (hp0_memory, .inl (E.1, 512, .inl z2)), (hp1_stack, .inl (E.1, 40, .inl p1_stack)), (hp0_stack, .inl (E.1, 40, .inl m17)), (hp1_starts, .inl (E.1, 8, .inl p1_starts)), (hp0_starts, .inl (E.1, 8, .inl m18)), (hp1_lengths, .inl (E.1, 8, .inl p1_lengths)), (hp0_lengths, .inl (E.1, 8, .inl m19))] H := hP
  have hD : va_D A [(hp0, .inr (1, [.ref hp0_memory, .int p1_size, .ref hp0_stack, .int p1_depth, .ref hp0_starts, .ref hp0_lengths, .int p1_blocks])), (hp1, .inr (1, [.ref hp1_memory, .int p1_size, .ref hp1_stack, .int p1_depth, .ref hp1_starts, .ref hp1_lengths, .int p1_blocks])), (hp1_memory, .inl (E.1, 512, .inl p1_memory)), (hp0_memory, .inl (E.1, 512, .inl z2)), (hp1_stack, .inl (E.1, 40, .inl p1_stack)), (hp0_stack, .inl (E.1, 40, .inl m17)), (hp1_starts, .inl (E.1, 8, .inl p1_starts)), (hp0_starts, .inl (E.1, 8, .inl m18)), (hp1_lengths, .inl (E.1, 8, .inl p1_lengths)), (hp0_lengths, .inl (E.1, 8, .inl m19))] := hD
  exact ret (z2, p1_size, m17, p1_depth, m18, m19, p1_blocks) (Option.some.inj h) _ _ _ _ (fun _ => 0) hP hD hS dX1_become_153
def B_X1_changeSize_5 (i1 : Int32) (rec5 : (Nat → Int32) → Int32 → Option ((Nat → Int32) × Int32)) (K30 : (Nat → Int32) → Int32 → Option ((Nat → Int32) × Int32)) (z1 : (Nat → Int32)) (z2 : Int32) : Option ((Nat → Int32) × Int32) :=
  if i1 ≤ z2 then (
  K30 z1 z2)
  else
  if (512 : Int32) ≤ z2 then (
  K30 z1 z2)
  else
  gin z2 512 <|
  bn (upd z1 z2.toNatClampNeg (0 : Int32)) fun m6 =>
  bn (z2 + 1) fun x7 =>
  rec5 m6 x7
def L_X1_changeSize_5 (i1 : Int32) (K30 : (Nat → Int32) → Int32 → Option ((Nat → Int32) × Int32)) : Nat → (Nat → Int32) → Int32 → Option ((Nat → Int32) × Int32)
    | 0, _, _ => none
    | n + 1, z1, z2 => B_X1_changeSize_5 i1 (fun z1 z2 => L_X1_changeSize_5 i1 K30 n z1 z2) K30 z1 z2
def f_X1_changeSize (N : Nat) (i1 : Int32) (p0_size : Int32) (p0_memory : (Nat → Int32)) : Option ((Nat → Int32) × Int32) :=
  L_X1_changeSize_5 i1 
  (fun z1 z2 =>
  some (z1, i1)) N p0_memory p0_size
abbrev w_rm_X1_changeSize : Room := { frames := 0, cells := 0, slots := 0, locals := 0 }
set_option maxHeartbeats 4000000 in
set_option maxRecDepth 100000 in
theorem c_X1_changeSize (l : Launch) (G : va_G) (E : ClassId × ClassId × ClassId) (N : Nat) (hp0 : Nat) (hp0_memory : Nat) (p0_size : Int32) (hp0_stack : Nat) (p0_depth : Int32) (hp0_starts : Nat) (hp0_lengths : Nat) (p0_blocks : Int32) (p0_memory : (Nat → Int32)) (i1 : Int32) (o0 : (Nat → Int32)) (o1 : Int32) (h : f_X1_changeSize N i1 p0_size p0_memory = some (o0, o1)) : MV l G E yX1_changeSize cX1_changeSize 3 w_rm_X1_changeSize [.ref hp0, .int i1] [(hp0, .inr (1, [.ref hp0_memory, .int p0_size, .ref hp0_stack, .int p0_depth, .ref hp0_starts, .ref hp0_lengths, .int p0_blocks])), (hp0_memory, .inl (E.1, 512, .inl p0_memory))] (fun a => [(hp0, .inr (1, [.ref hp0_memory, .int o1, .ref hp0_stack, .int p0_depth, .ref hp0_starts, .ref hp0_lengths, .int p0_blocks])), (hp0_memory, .inl (E.1, 512, .inl o0))]) 0 0 := by
  refine MV_of (by decide) (Nat.le_of_ble_eq_true rfl) ?_
  intro p e s m args below meth c A Q hx hb hml hown hin hts hK hA hP hD hS ret ls hl
  replace ret : ∀ (R : ((Nat → Int32) × Int32)), R = (o0, o1) → ∀ (H : Heap) (locs : List Loc) (pc : Nat) (ls : Array Slot) (a : Nat → Nat), va_P G vwCl [(hp0, .inr (1, [.ref hp0_memory, .int R.2, .ref hp0_stack, .int p0_depth, .ref hp0_starts, .ref hp0_lengths, .int p0_blocks])), (hp0_memory, .inl (E.1, 512, .inl R.1))] H → va_D A [(hp0, .inr (1, [.ref hp0_memory, .int R.2, .ref hp0_stack, .int p0_depth, .ref hp0_starts, .ref hp0_lengths, .int p0_blocks])), (hp0_memory, .inl (E.1, 512, .inl R.1))] → va_S A s.heap H locs → decode cX1_changeSize pc = .ok (.return_, 1) → W p l e w_rm_X1_changeSize s m args below meth c H locs 0 0 Q (F0 m pc ls []) := by
    intro R hR
    subst hR
    exact ret
  replace hl : lv_has ls 3 [(0, .ref hp0), (1, .int i1)] := hl
  unfold f_X1_changeSize at h
  refine lv_aload_n hx hb dX1_changeSize_0 rfl (lv_at hl 0 rfl) ?_
  refine getF (D := G) (ci := 1) (v := .int p0_size) (C := RX1) (T := TX1) (N := 7) hx hb hts inG_X1 hown hK.1 hP 0 rfl rfl 1 (by decide) tf_X1_1 (hts _ wd_41c784e1) rfl dX1_changeSize_1 ?_
  refine lv_istore_n (lv' := [(2, .int p0_size), (0, .ref hp0), (1, .int i1)]) hx hb dX1_changeSize_4 rfl hl (by decide) rfl (fun ls hl => ?_)
  have hL5 : ∀ (K30 : (Nat → Int32) → Int32 → Option ((Nat → Int32) × Int32)), (∀ (z1 : (Nat → Int32)) (z2 : Int32), K30 z1 z2 = some (o0, o1) → ∀ (H : Heap) (locs : List Loc) (ls : Array Slot), va_P G vwCl [(hp0, .inr (1, [.ref hp0_memory, .int p0_size, .ref hp0_stack, .int p0_depth, .ref hp0_starts, .ref hp0_lengths, .int p0_blocks])), (hp0_memory, .inl (E.1, 512, .inl z1))] H → va_D A [(hp0, .inr (1, [.ref hp0_memory, .int p0_size, .ref hp0_stack, .int p0_depth, .ref hp0_starts, .ref hp0_lengths, .int p0_blocks])), (hp0_memory, .inl (E.1, 512, .inl z1))] → va_S A s.heap H locs → lv_has ls 3 [(0, .ref hp0), (1, .int i1)] → W p l e w_rm_X1_changeSize s m args below meth c H locs 0 0 Q (F0 m 30 ls [])) → ∀ (n : Nat) (z1 : (Nat → Int32)) (z2 : Int32), L_X1_changeSize_5 i1 K30 n z1 z2 = some (o0, o1) → ∀ (H : Heap) (locs : List Loc) (ls : Array Slot), va_P G vwCl [(hp0, .inr (1, [.ref hp0_memory, .int p0_size, .ref hp0_stack, .int p0_depth, .ref hp0_starts, .ref hp0_lengths, .int p0_blocks])), (hp0_memory, .inl (E.1, 512, .inl z1))] H → va_D A [(hp0, .inr (1, [.ref hp0_memory, .int p0_size, .ref hp0_stack, .int p0_depth, .ref hp0_starts, .ref hp0_lengths, .int p0_blocks])), (hp0_memory, .inl (E.1, 512, .inl z1))] → va_S A s.heap H locs → lv_has ls 3 [(0, .ref hp0), (1, .int i1), (2, .int z2)] → W p l e w_rm_X1_changeSize s m args below meth c H locs 0 0 Q (F0 m 5 ls []) := by
    intro K30 hK30 n
    induction n with
    | zero =>
      intro z1 z2 h
      replace h : (none : Option ((Nat → Int32) × Int32)) = some (o0, o1) := h
      cases h
    | succ n ih =>
      intro z1 z2 h H locs ls hP hD hS hl
      replace h : B_X1_changeSize_5 i1 (fun z1 z2 => L_X1_changeSize_5 i1 K30 n z1 z2) K30 z1 z2 = some (o0, o1) := h
      obtain ⟨rec5, hrec5⟩ : ∃ f : (Nat → Int32) → Int32 → Option ((Nat → Int32) × Int32), f = (fun z1 z2 => L_X1_changeSize_5 i1 K30 n z1 z2) := ⟨_, rfl⟩
      rw [← hrec5] at h
      unfold B_X1_changeSize_5 at h
      refine lv_iload_n hx hb dX1_changeSize_5 rfl (lv_at hl 2 rfl) ?_
      refine lv_iload_n hx hb dX1_changeSize_6 rfl (lv_at hl 1 rfl) ?_
      refine lv_icmp_ge (tgt := 30) hx hb dX1_changeSize_7 (by decide) (fun c3 => ?_) (fun c3 => ?_)
      · replace h := if_t h c3
        exact hK30 z1 z2 h _ _ _ hP hD hS (lv_sub hl [0, 1] rfl)
      · replace h := if_f h c3
        refine lv_iload_n hx hb dX1_changeSize_10 rfl (lv_at hl 2 rfl) ?_
        refine lv_sipush (v := 512) hx hb dX1_changeSize_11 (by decide) ?_
        refine lv_icmp_ge (tgt := 30) hx hb dX1_changeSize_14 (by decide) (fun c4 => ?_) (fun c4 => ?_)
        · replace h := if_t h c4
          exact hK30 z1 z2 h _ _ _ hP hD hS (lv_sub hl [0, 1] rfl)
        · replace h := if_f h c4
          refine lv_aload_n hx hb dX1_changeSize_17 rfl (lv_at hl 0 rfl) ?_
          refine getF (D := G) (ci := 1) (v := .ref hp0_memory) (C := RX1) (T := TX1) (N := 7) hx hb hts inG_X1 hown hK.1 hP 0 rfl rfl 0 (by decide) tf_X1_0 (hts _ wd_78089881) rfl dX1_changeSize_18 ?_
          refine lv_iload_n hx hb dX1_changeSize_21 rfl (lv_at hl 2 rfl) ?_
          refine lv_iconst (v := 0) hx hb dX1_changeSize_22 (by decide) ?_
          obtain ⟨g5, h⟩ := gin_t h
          refine va_iast hx hb hK.1 hP hD hS 1 0 rfl rfl g5 dX1_changeSize_23 (fun H locs hP hD hS => ?_)
          have hP : va_P G vwCl [(hp0, .inr (1, [.ref hp0_memory, .int p0_size, .ref hp0_stack, .int p0_depth, .ref hp0_starts, .ref hp0_lengths, .int p0_blocks])), (hp0_memory, .inl (E.1, 512, .inl (upd z1 z2.toNatClampNeg (0 : Int32))))] H := hP
          have hD : va_D A [(hp0, .inr (1, [.ref hp0_memory, .int p0_size, .ref hp0_stack, .int p0_depth, .ref hp0_starts, .ref hp0_lengths, .int p0_blocks])), (hp0_memory, .inl (E.1, 512, .inl (upd z1 z2.toNatClampNeg (0 : Int32))))] := hD
          obtain ⟨m6, em6⟩ : ∃ y : Nat → Int32, y = upd z1 z2.toNatClampNeg (0 : Int32) := ⟨_, rfl⟩
          replace h := bn_t h em6
          rw [← em6] at hP hD
          obtain ⟨x7, ex7⟩ : ∃ y : Int32, y = z2 + 1 := ⟨_, rfl⟩
          replace h := bn_t h ex7
          refine lv_iinc (v := x7) (lv' := [(2, .int x7), (0, .ref hp0), (1, .int i1)]) hx hb dX1_changeSize_24 hl (k := 2) rfl (by rw [ex7]; rfl) (by decide) rfl (fun ls hl => ?_)
          refine lv_goto (tgt := 5) hx hb dX1_changeSize_27 (by decide) ?_
          exact ih m6 x7 (by rw [hrec5] at h; exact h) _ _ _ hP hD hS (lv_sub hl [1, 2, 0] rfl)
  refine hL5 _ (fun z1 z2 h H locs ls hP hD hS hl => ?_) N p0_memory p0_size h _ _ _ hP hD hS (lv_sub hl [1, 2, 0] rfl)
  try dsimp only at h
  refine lv_aload_n hx hb dX1_changeSize_30 rfl (lv_at hl 0 rfl) ?_
  refine lv_iload_n hx hb dX1_changeSize_31 rfl (lv_at hl 1 rfl) ?_
  refine putF (D := G) (ci := 1) (v := .int i1) (ty := .int) (C := RX1) (T := TX1) (N := 7) hx hb hts inG_X1 tyX1 tyX1_ok nmX1 hown hK.1 hP hD hS 0 rfl rfl 1 (by decide) tf_X1_1 (hts _ wd_41c784e1) pd_I rfl rfl (Nat.le_of_ble_eq_true rfl) dX1_changeSize_32 (fun H locs hP hD hS => ?_)
  have hP : va_P G vwCl [(hp0, .inr (1, [.ref hp0_memory, .int i1, .ref hp0_stack, .int p0_depth, .ref hp0_starts, .ref hp0_lengths, .int p0_blocks])), (hp0_memory, .inl (E.1, 512, .inl z1))] H := hP
  have hD : va_D A [(hp0, .inr (1, [.ref hp0_memory, .int i1, .ref hp0_stack, .int p0_depth, .ref hp0_starts, .ref hp0_lengths, .int p0_blocks])), (hp0_memory, .inl (E.1, 512, .inl z1))] := hD
  exact ret (z1, i1) (Option.some.inj h) _ _ _ _ (fun _ => 0) hP hD hS dX1_changeSize_35
def f_X1_addInt (i1 : Int32) (p0_depth : Int32) (p0_stack : (Nat → Int32)) : Option (Int32 × (Nat → Int32) × Int32) :=
  if p0_depth < (40 : Int32) then (
  gin p0_depth 40 <|
  bn (upd p0_stack p0_depth.toNatClampNeg i1) fun m3 =>
  bn (p0_depth + (1 : Int32)) fun x4 =>
  some ((1 : Int32), m3, x4))
  else
  some ((0 : Int32), p0_stack, p0_depth)
abbrev w_rm_X1_addInt : Room := { frames := 0, cells := 0, slots := 0, locals := 0 }
set_option maxHeartbeats 4000000 in
set_option maxRecDepth 100000 in
theorem c_X1_addInt (l : Launch) (G : va_G) (E : ClassId × ClassId × ClassId) (hp0 : Nat) (hp0_memory : Nat) (p0_size : Int32) (hp0_stack : Nat) (p0_depth : Int32) (hp0_starts : Nat) (hp0_lengths : Nat) (p0_blocks : Int32) (p0_stack : (Nat → Int32)) (i1 : Int32) (r : Int32) (o0 : (Nat → Int32)) (o1 : Int32) (h : f_X1_addInt i1 p0_depth p0_stack = some (r, o0, o1)) : MI l G E yX1_addInt cX1_addInt 2 .boolean w_rm_X1_addInt [.ref hp0, .int i1] [(hp0, .inr (1, [.ref hp0_memory, .int p0_size, .ref hp0_stack, .int p0_depth, .ref hp0_starts, .ref hp0_lengths, .int p0_blocks])), (hp0_stack, .inl (E.1, 40, .inl p0_stack))] r (fun a => [(hp0, .inr (1, [.ref hp0_memory, .int p0_size, .ref hp0_stack, .int o1, .ref hp0_starts, .ref hp0_lengths, .int p0_blocks])), (hp0_stack, .inl (E.1, 40, .inl o0))]) 0 0 := by
  refine MI_of (by decide) (Nat.le_of_ble_eq_true rfl) ?_
  intro p e s m args below meth c A Q hx hb hml hown hts hK hA hP hD hS ret ls hl
  replace ret : ∀ (R : (Int32 × (Nat → Int32) × Int32)), R = (r, o0, o1) → ∀ (H : Heap) (locs : List Loc) (pc : Nat) (ls : Array Slot) (v : Int32) (a : Nat → Nat), v = R.1 → narrow .boolean (.int v) = .int v → va_P G vwCl [(hp0, .inr (1, [.ref hp0_memory, .int p0_size, .ref hp0_stack, .int R.2.2, .ref hp0_starts, .ref hp0_lengths, .int p0_blocks])), (hp0_stack, .inl (E.1, 40, .inl R.2.1))] H → va_D A [(hp0, .inr (1, [.ref hp0_memory, .int p0_size, .ref hp0_stack, .int R.2.2, .ref hp0_starts, .ref hp0_lengths, .int p0_blocks])), (hp0_stack, .inl (E.1, 40, .inl R.2.1))] → va_S A s.heap H locs → decode cX1_addInt pc = .ok (.ireturn, 1) → W p l e w_rm_X1_addInt s m args below meth c H locs 0 0 Q (F0 m pc ls [.int v]) := by
    intro R hR
    subst hR
    exact ret
  replace hl : lv_has ls 2 [(0, .ref hp0), (1, .int i1)] := hl
  unfold f_X1_addInt at h
  refine lv_aload_n hx hb dX1_addInt_0 rfl (lv_at hl 0 rfl) ?_
  refine getF (D := G) (ci := 1) (v := .int p0_depth) (C := RX1) (T := TX1) (N := 7) hx hb hts inG_X1 hown hK.1 hP 0 rfl rfl 3 (by decide) tf_X1_3 (hts _ wd_20db0b98) rfl dX1_addInt_1 ?_
  refine lv_bipush (v := 40) hx hb dX1_addInt_4 (by decide) ?_
  refine lv_icmp_lt (tgt := 11) hx hb dX1_addInt_6 (by decide) (fun c1 => ?_) (fun c1 => ?_)
  · replace h := if_t h c1
    refine lv_aload_n hx hb dX1_addInt_11 rfl (lv_at hl 0 rfl) ?_
    refine getF (D := G) (ci := 1) (v := .ref hp0_stack) (C := RX1) (T := TX1) (N := 7) hx hb hts inG_X1 hown hK.1 hP 0 rfl rfl 2 (by decide) tf_X1_2 (hts _ wd_4041e156) rfl dX1_addInt_12 ?_
    refine lv_aload_n hx hb dX1_addInt_15 rfl (lv_at hl 0 rfl) ?_
    refine getF (D := G) (ci := 1) (v := .int p0_depth) (C := RX1) (T := TX1) (N := 7) hx hb hts inG_X1 hown hK.1 hP 0 rfl rfl 3 (by decide) tf_X1_3 (hts _ wd_20db0b98) rfl dX1_addInt_16 ?_
    refine lv_iload_n hx hb dX1_addInt_19 rfl (lv_at hl 1 rfl) ?_
    obtain ⟨g2, h⟩ := gin_t h
    refine va_iast hx hb hK.1 hP hD hS 1 0 rfl rfl g2 dX1_addInt_20 (fun H locs hP hD hS => ?_)
    have hP : va_P G vwCl [(hp0, .inr (1, [.ref hp0_memory, .int p0_size, .ref hp0_stack, .int p0_depth, .ref hp0_starts, .ref hp0_lengths, .int p0_blocks])), (hp0_stack, .inl (E.1, 40, .inl (upd p0_stack p0_depth.toNatClampNeg i1)))] H := hP
    have hD : va_D A [(hp0, .inr (1, [.ref hp0_memory, .int p0_size, .ref hp0_stack, .int p0_depth, .ref hp0_starts, .ref hp0_lengths, .int p0_blocks])), (hp0_stack, .inl (E.1, 40, .inl (upd p0_stack p0_depth.toNatClampNeg i1)))] := hD
    obtain ⟨m3, em3⟩ : ∃ y : Nat → Int32, y = upd p0_stack p0_depth.toNatClampNeg i1 := ⟨_, rfl⟩
    replace h := bn_t h em3
    rw [← em3] at hP hD
    refine lv_aload_n hx hb dX1_addInt_21 rfl (lv_at hl 0 rfl) ?_
    refine lv_dup hx hb dX1_addInt_22 rfl ?_
    refine getF (D := G) (ci := 1) (v := .int p0_depth) (C := RX1) (T := TX1) (N := 7) hx hb hts inG_X1 hown hK.1 hP 0 rfl rfl 3 (by decide) tf_X1_3 (hts _ wd_20db0b98) rfl dX1_addInt_23 ?_
    refine lv_iconst (v := 1) hx hb dX1_addInt_26 (by decide) ?_
    refine lv_iadd hx hb dX1_addInt_27 ?_
    refine lv_topi (fun x4 ex4 => ?_)
    replace h := bn_t h ex4
    refine putF (D := G) (ci := 1) (v := .int x4) (ty := .int) (C := RX1) (T := TX1) (N := 7) hx hb hts inG_X1 tyX1 tyX1_ok nmX1 hown hK.1 hP hD hS 0 rfl rfl 3 (by decide) tf_X1_3 (hts _ wd_20db0b98) pd_I rfl rfl (Nat.le_of_ble_eq_true rfl) dX1_addInt_28 (fun H locs hP hD hS => ?_)
    have hP : va_P G vwCl [(hp0, .inr (1, [.ref hp0_memory, .int p0_size, .ref hp0_stack, .int x4, .ref hp0_starts, .ref hp0_lengths, .int p0_blocks])), (hp0_stack, .inl (E.1, 40, .inl m3))] H := hP
    have hD : va_D A [(hp0, .inr (1, [.ref hp0_memory, .int p0_size, .ref hp0_stack, .int x4, .ref hp0_starts, .ref hp0_lengths, .int p0_blocks])), (hp0_stack, .inl (E.1, 40, .inl m3))] := hD
    refine lv_iconst (v := 1) hx hb dX1_addInt_31 (by decide) ?_
    exact ret ((1 : Int32), m3, x4) (Option.some.inj h) _ _ _ _ _ (fun _ => 0) rfl rfl hP hD hS dX1_addInt_32
  · replace h := if_f h c1
    refine lv_iconst (v := 0) hx hb dX1_addInt_9 (by decide) ?_
    exact ret ((0 : Int32), p0_stack, p0_depth) (Option.some.inj h) _ _ _ _ _ (fun _ => 0) rfl rfl hP hD hS dX1_addInt_10
def f_X1_takeInt (p0_depth : Int32) (p0_stack : (Nat → Int32)) : Option (Int32 × Int32) :=
  if 0 < p0_depth then (
  bn (p0_depth - (1 : Int32)) fun x2 =>
  gin x2 40 <|
  some (p0_stack x2.toNatClampNeg, x2))
  else
  some ((0 : Int32), p0_depth)
abbrev w_rm_X1_takeInt : Room := { frames := 0, cells := 0, slots := 0, locals := 0 }
set_option maxHeartbeats 4000000 in
set_option maxRecDepth 100000 in
theorem c_X1_takeInt (l : Launch) (G : va_G) (E : ClassId × ClassId × ClassId) (hp0 : Nat) (hp0_memory : Nat) (p0_size : Int32) (hp0_stack : Nat) (p0_depth : Int32) (hp0_starts : Nat) (hp0_lengths : Nat) (p0_blocks : Int32) (p0_stack : (Nat → Int32)) (r : Int32) (o0 : Int32) (h : f_X1_takeInt p0_depth p0_stack = some (r, o0)) : MI l G E yX1_takeInt cX1_takeInt 1 .int w_rm_X1_takeInt [.ref hp0] [(hp0, .inr (1, [.ref hp0_memory, .int p0_size, .ref hp0_stack, .int p0_depth, .ref hp0_starts, .ref hp0_lengths, .int p0_blocks])), (hp0_stack, .inl (E.1, 40, .inl p0_stack))] r (fun a => [(hp0, .inr (1, [.ref hp0_memory, .int p0_size, .ref hp0_stack, .int o0, .ref hp0_starts, .ref hp0_lengths, .int p0_blocks])), (hp0_stack, .inl (E.1, 40, .inl p0_stack))]) 0 0 := by
  refine MI_of (by decide) (Nat.le_of_ble_eq_true rfl) ?_
  intro p e s m args below meth c A Q hx hb hml hown hts hK hA hP hD hS ret ls hl
  replace ret : ∀ (R : (Int32 × Int32)), R = (r, o0) → ∀ (H : Heap) (locs : List Loc) (pc : Nat) (ls : Array Slot) (v : Int32) (a : Nat → Nat), v = R.1 → narrow .int (.int v) = .int v → va_P G vwCl [(hp0, .inr (1, [.ref hp0_memory, .int p0_size, .ref hp0_stack, .int R.2, .ref hp0_starts, .ref hp0_lengths, .int p0_blocks])), (hp0_stack, .inl (E.1, 40, .inl p0_stack))] H → va_D A [(hp0, .inr (1, [.ref hp0_memory, .int p0_size, .ref hp0_stack, .int R.2, .ref hp0_starts, .ref hp0_lengths, .int p0_blocks])), (hp0_stack, .inl (E.1, 40, .inl p0_stack))] → va_S A s.heap H locs → decode cX1_takeInt pc = .ok (.ireturn, 1) → W p l e w_rm_X1_takeInt s m args below meth c H locs 0 0 Q (F0 m pc ls [.int v]) := by
    intro R hR
    subst hR
    exact ret
  replace hl : lv_has ls 1 [(0, .ref hp0)] := hl
  unfold f_X1_takeInt at h
  refine lv_aload_n hx hb dX1_takeInt_0 rfl (lv_at hl 0 rfl) ?_
  refine getF (D := G) (ci := 1) (v := .int p0_depth) (C := RX1) (T := TX1) (N := 7) hx hb hts inG_X1 hown hK.1 hP 0 rfl rfl 3 (by decide) tf_X1_3 (hts _ wd_20db0b98) rfl dX1_takeInt_1 ?_
  refine lv_if_gt (tgt := 9) hx hb dX1_takeInt_4 (by decide) (fun c1 => ?_) (fun c1 => ?_)
  · replace h := if_t h c1
    refine lv_aload_n hx hb dX1_takeInt_9 rfl (lv_at hl 0 rfl) ?_
    refine lv_dup hx hb dX1_takeInt_10 rfl ?_
    refine getF (D := G) (ci := 1) (v := .int p0_depth) (C := RX1) (T := TX1) (N := 7) hx hb hts inG_X1 hown hK.1 hP 0 rfl rfl 3 (by decide) tf_X1_3 (hts _ wd_20db0b98) rfl dX1_takeInt_11 ?_
    refine lv_iconst (v := 1) hx hb dX1_takeInt_14 (by decide) ?_
    refine lv_isub hx hb dX1_takeInt_15 ?_
    refine lv_topi (fun x2 ex2 => ?_)
    replace h := bn_t h ex2
    refine putF (D := G) (ci := 1) (v := .int x2) (ty := .int) (C := RX1) (T := TX1) (N := 7) hx hb hts inG_X1 tyX1 tyX1_ok nmX1 hown hK.1 hP hD hS 0 rfl rfl 3 (by decide) tf_X1_3 (hts _ wd_20db0b98) pd_I rfl rfl (Nat.le_of_ble_eq_true rfl) dX1_takeInt_16 (fun H locs hP hD hS => ?_)
    have hP : va_P G vwCl [(hp0, .inr (1, [.ref hp0_memory, .int p0_size, .ref hp0_stack, .int x2, .ref hp0_starts, .ref hp0_lengths, .int p0_blocks])), (hp0_stack, .inl (E.1, 40, .inl p0_stack))] H := hP
    have hD : va_D A [(hp0, .inr (1, [.ref hp0_memory, .int p0_size, .ref hp0_stack, .int x2, .ref hp0_starts, .ref hp0_lengths, .int p0_blocks])), (hp0_stack, .inl (E.1, 40, .inl p0_stack))] := hD
    refine lv_aload_n hx hb dX1_takeInt_19 rfl (lv_at hl 0 rfl) ?_
    refine getF (D := G) (ci := 1) (v := .ref hp0_stack) (C := RX1) (T := TX1) (N := 7) hx hb hts inG_X1 hown hK.1 hP 0 rfl rfl 2 (by decide) tf_X1_2 (hts _ wd_4041e156) rfl dX1_takeInt_20 ?_
    refine lv_aload_n hx hb dX1_takeInt_23 rfl (lv_at hl 0 rfl) ?_
    refine getF (D := G) (ci := 1) (v := .int x2) (C := RX1) (T := TX1) (N := 7) hx hb hts inG_X1 hown hK.1 hP 0 rfl rfl 3 (by decide) tf_X1_3 (hts _ wd_20db0b98) rfl dX1_takeInt_24 ?_
    obtain ⟨g3, h⟩ := gin_t h
    refine va_iald hx hb hK.1 hP 1 0 rfl rfl g3 dX1_takeInt_27 ?_
    exact ret (p0_stack x2.toNatClampNeg, x2) (Option.some.inj h) _ _ _ _ _ (fun _ => 0) rfl rfl hP hD hS dX1_takeInt_28
  · replace h := if_f h c1
    refine lv_iconst (v := 0) hx hb dX1_takeInt_7 (by decide) ?_
    exact ret ((0 : Int32), p0_depth) (Option.some.inj h) _ _ _ _ _ (fun _ => 0) rfl rfl hP hD hS dX1_takeInt_8
def f_X1_blocksEnd (p0_blocks : Int32) (p0_starts : (Nat → Int32)) (p0_lengths : (Nat → Int32)) : Option (Int32) :=
  if p0_blocks = 0 then (
  some ((0 : Int32)))
  else
  gin (p0_blocks - (1 : Int32)) 8 <|
  gin (p0_blocks - (1 : Int32)) 8 <|
  some ((p0_starts (p0_blocks - (1 : Int32)).toNatClampNeg) + (p0_lengths (p0_blocks - (1 : Int32)).toNatClampNeg))
abbrev w_rm_X1_blocksEnd : Room := { frames := 0, cells := 0, slots := 0, locals := 0 }
set_option maxHeartbeats 4000000 in
set_option maxRecDepth 100000 in
theorem c_X1_blocksEnd (l : Launch) (G : va_G) (E : ClassId × ClassId × ClassId) (hp0 : Nat) (hp0_memory : Nat) (p0_size : Int32) (hp0_stack : Nat) (p0_depth : Int32) (hp0_starts : Nat) (hp0_lengths : Nat) (p0_blocks : Int32) (p0_starts : (Nat → Int32)) (p0_lengths : (Nat → Int32)) (r : Int32) (h : f_X1_blocksEnd p0_blocks p0_starts p0_lengths = some (r)) : MI l G E yX1_blocksEnd cX1_blocksEnd 1 .int w_rm_X1_blocksEnd [.ref hp0] [(hp0, .inr (1, [.ref hp0_memory, .int p0_size, .ref hp0_stack, .int p0_depth, .ref hp0_starts, .ref hp0_lengths, .int p0_blocks])), (hp0_starts, .inl (E.1, 8, .inl p0_starts)), (hp0_lengths, .inl (E.1, 8, .inl p0_lengths))] r (fun a => [(hp0, .inr (1, [.ref hp0_memory, .int p0_size, .ref hp0_stack, .int p0_depth, .ref hp0_starts, .ref hp0_lengths, .int p0_blocks])), (hp0_starts, .inl (E.1, 8, .inl p0_starts)), (hp0_lengths, .inl (E.1, 8, .inl p0_lengths))]) 0 0 := by
  refine MI_of (by decide) (Nat.le_of_ble_eq_true rfl) ?_
  intro p e s m args below meth c A Q hx hb hml hown hts hK hA hP hD hS ret ls hl
  replace ret : ∀ (R : (Int32)), R = (r) → ∀ (H : Heap) (locs : List Loc) (pc : Nat) (ls : Array Slot) (v : Int32) (a : Nat → Nat), v = R → narrow .int (.int v) = .int v → va_P G vwCl [(hp0, .inr (1, [.ref hp0_memory, .int p0_size, .ref hp0_stack, .int p0_depth, .ref hp0_starts, .ref hp0_lengths, .int p0_blocks])), (hp0_starts, .inl (E.1, 8, .inl p0_starts)), (hp0_lengths, .inl (E.1, 8, .inl p0_lengths))] H → va_D A [(hp0, .inr (1, [.ref hp0_memory, .int p0_size, .ref hp0_stack, .int p0_depth, .ref hp0_starts, .ref hp0_lengths, .int p0_blocks])), (hp0_starts, .inl (E.1, 8, .inl p0_starts)), (hp0_lengths, .inl (E.1, 8, .inl p0_lengths))] → va_S A s.heap H locs → decode cX1_blocksEnd pc = .ok (.ireturn, 1) → W p l e w_rm_X1_blocksEnd s m args below meth c H locs 0 0 Q (F0 m pc ls [.int v]) := by
    intro R hR
    subst hR
    exact ret
  replace hl : lv_has ls 1 [(0, .ref hp0)] := hl
  unfold f_X1_blocksEnd at h
  refine lv_aload_n hx hb dX1_blocksEnd_0 rfl (lv_at hl 0 rfl) ?_
  refine getF (D := G) (ci := 1) (v := .int p0_blocks) (C := RX1) (T := TX1) (N := 7) hx hb hts inG_X1 hown hK.1 hP 0 rfl rfl 6 (by decide) tf_X1_6 (hts _ wd_82724fa2) rfl dX1_blocksEnd_1 ?_
  refine lv_if_ne (tgt := 11) hx hb dX1_blocksEnd_4 (by decide) (fun c1 => ?_) (fun c1 => ?_)
  · replace h := if_f h c1
    refine lv_aload_n hx hb dX1_blocksEnd_11 rfl (lv_at hl 0 rfl) ?_
    refine getF (D := G) (ci := 1) (v := .ref hp0_starts) (C := RX1) (T := TX1) (N := 7) hx hb hts inG_X1 hown hK.1 hP 0 rfl rfl 4 (by decide) tf_X1_4 (hts _ wd_30cca9c2) rfl dX1_blocksEnd_12 ?_
    refine lv_aload_n hx hb dX1_blocksEnd_15 rfl (lv_at hl 0 rfl) ?_
    refine getF (D := G) (ci := 1) (v := .int p0_blocks) (C := RX1) (T := TX1) (N := 7) hx hb hts inG_X1 hown hK.1 hP 0 rfl rfl 6 (by decide) tf_X1_6 (hts _ wd_82724fa2) rfl dX1_blocksEnd_16 ?_
    refine lv_iconst (v := 1) hx hb dX1_blocksEnd_19 (by decide) ?_
    refine lv_isub hx hb dX1_blocksEnd_20 ?_
    obtain ⟨g2, h⟩ := gin_t h
    refine va_iald hx hb hK.1 hP 1 0 rfl rfl g2 dX1_blocksEnd_21 ?_
    refine lv_aload_n hx hb dX1_blocksEnd_22 rfl (lv_at hl 0 rfl) ?_
    refine getF (D := G) (ci := 1) (v := .ref hp0_lengths) (C := RX1) (T := TX1) (N := 7) hx hb hts inG_X1 hown hK.1 hP 0 rfl rfl 5 (by decide) tf_X1_5 (hts _ wd_2f64a7ae) rfl dX1_blocksEnd_23 ?_
    refine lv_aload_n hx hb dX1_blocksEnd_26 rfl (lv_at hl 0 rfl) ?_
    refine getF (D := G) (ci := 1) (v := .int p0_blocks) (C := RX1) (T := TX1) (N := 7) hx hb hts inG_X1 hown hK.1 hP 0 rfl rfl 6 (by decide) tf_X1_6 (hts _ wd_82724fa2) rfl dX1_blocksEnd_27 ?_
    refine lv_iconst (v := 1) hx hb dX1_blocksEnd_30 (by decide) ?_
    refine lv_isub hx hb dX1_blocksEnd_31 ?_
    obtain ⟨g3, h⟩ := gin_t h
    refine va_iald hx hb hK.1 hP 2 0 rfl rfl g3 dX1_blocksEnd_32 ?_
    refine lv_iadd hx hb dX1_blocksEnd_33 ?_
    exact ret ((p0_starts (p0_blocks - (1 : Int32)).toNatClampNeg) + (p0_lengths (p0_blocks - (1 : Int32)).toNatClampNeg)) (Option.some.inj h) _ _ _ _ _ (fun _ => 0) rfl rfl hP hD hS dX1_blocksEnd_34
  · replace h := if_t h c1
    refine lv_iconst (v := 0) hx hb dX1_blocksEnd_7 (by decide) ?_
    refine lv_goto (tgt := 34) hx hb dX1_blocksEnd_8 (by decide) ?_
    exact ret ((0 : Int32)) (Option.some.inj h) _ _ _ _ _ (fun _ => 0) rfl rfl hP hD hS dX1_blocksEnd_34
def B_X1_blockAt_2 (i1 : Int32) (p0_blocks : Int32) (p0_starts : (Nat → Int32)) (rec2 : Int32 → Option (Int32)) (K28 : Int32 → Option (Int32)) (z1 : Int32) : Option (Int32) :=
  if p0_blocks ≤ z1 then (
  K28 z1)
  else
  gin z1 8 <|
  if (p0_starts z1.toNatClampNeg) = i1 then (
  some (z1))
  else
  bn (z1 + 1) fun x5 =>
  rec2 x5
def L_X1_blockAt_2 (i1 : Int32) (p0_blocks : Int32) (p0_starts : (Nat → Int32)) (K28 : Int32 → Option (Int32)) : Nat → Int32 → Option (Int32)
    | 0, _ => none
    | n + 1, z1 => B_X1_blockAt_2 i1 p0_blocks p0_starts (fun z1 => L_X1_blockAt_2 i1 p0_blocks p0_starts K28 n z1) K28 z1
def f_X1_blockAt (N : Nat) (i1 : Int32) (p0_blocks : Int32) (p0_starts : (Nat → Int32)) : Option (Int32) :=
  L_X1_blockAt_2 i1 p0_blocks p0_starts 
  (fun z1 =>
  some ((-1 : Int32))) N (0 : Int32)
abbrev w_rm_X1_blockAt : Room := { frames := 0, cells := 0, slots := 0, locals := 0 }
set_option maxHeartbeats 4000000 in
set_option maxRecDepth 100000 in
theorem c_X1_blockAt (l : Launch) (G : va_G) (E : ClassId × ClassId × ClassId) (N : Nat) (hp0 : Nat) (hp0_memory : Nat) (p0_size : Int32) (hp0_stack : Nat) (p0_depth : Int32) (hp0_starts : Nat) (hp0_lengths : Nat) (p0_blocks : Int32) (p0_starts : (Nat → Int32)) (i1 : Int32) (r : Int32) (h : f_X1_blockAt N i1 p0_blocks p0_starts = some (r)) : MI l G E yX1_blockAt cX1_blockAt 3 .int w_rm_X1_blockAt [.ref hp0, .int i1] [(hp0, .inr (1, [.ref hp0_memory, .int p0_size, .ref hp0_stack, .int p0_depth, .ref hp0_starts, .ref hp0_lengths, .int p0_blocks])), (hp0_starts, .inl (E.1, 8, .inl p0_starts))] r (fun a => [(hp0, .inr (1, [.ref hp0_memory, .int p0_size, .ref hp0_stack, .int p0_depth, .ref hp0_starts, .ref hp0_lengths, .int p0_blocks])), (hp0_starts, .inl (E.1, 8, .inl p0_starts))]) 0 0 := by
  refine MI_of (by decide) (Nat.le_of_ble_eq_true rfl) ?_
  intro p e s m args below meth c A Q hx hb hml hown hts hK hA hP hD hS ret ls hl
  replace ret : ∀ (R : (Int32)), R = (r) → ∀ (H : Heap) (locs : List Loc) (pc : Nat) (ls : Array Slot) (v : Int32) (a : Nat → Nat), v = R → narrow .int (.int v) = .int v → va_P G vwCl [(hp0, .inr (1, [.ref hp0_memory, .int p0_size, .ref hp0_stack, .int p0_depth, .ref hp0_starts, .ref hp0_lengths, .int p0_blocks])), (hp0_starts, .inl (E.1, 8, .inl p0_starts))] H → va_D A [(hp0, .inr (1, [.ref hp0_memory, .int p0_size, .ref hp0_stack, .int p0_depth, .ref hp0_starts, .ref hp0_lengths, .int p0_blocks])), (hp0_starts, .inl (E.1, 8, .inl p0_starts))] → va_S A s.heap H locs → decode cX1_blockAt pc = .ok (.ireturn, 1) → W p l e w_rm_X1_blockAt s m args below meth c H locs 0 0 Q (F0 m pc ls [.int v]) := by
    intro R hR
    subst hR
    exact ret
  replace hl : lv_has ls 3 [(0, .ref hp0), (1, .int i1)] := hl
  unfold f_X1_blockAt at h
  refine lv_iconst (v := 0) hx hb dX1_blockAt_0 (by decide) ?_
  refine lv_istore_n (lv' := [(2, .int (0 : Int32)), (0, .ref hp0), (1, .int i1)]) hx hb dX1_blockAt_1 rfl hl (by decide) rfl (fun ls hl => ?_)
  have hL2 : ∀ (K28 : Int32 → Option (Int32)), (∀ (z1 : Int32), K28 z1 = some (r) → ∀ (H : Heap) (locs : List Loc) (ls : Array Slot), va_P G vwCl [(hp0, .inr (1, [.ref hp0_memory, .int p0_size, .ref hp0_stack, .int p0_depth, .ref hp0_starts, .ref hp0_lengths, .int p0_blocks])), (hp0_starts, .inl (E.1, 8, .inl p0_starts))] H → va_D A [(hp0, .inr (1, [.ref hp0_memory, .int p0_size, .ref hp0_stack, .int p0_depth, .ref hp0_starts, .ref hp0_lengths, .int p0_blocks])), (hp0_starts, .inl (E.1, 8, .inl p0_starts))] → va_S A s.heap H locs → lv_has ls 3 [] → W p l e w_rm_X1_blockAt s m args below meth c H locs 0 0 Q (F0 m 28 ls [])) → ∀ (n : Nat) (z1 : Int32), L_X1_blockAt_2 i1 p0_blocks p0_starts K28 n z1 = some (r) → ∀ (H : Heap) (locs : List Loc) (ls : Array Slot), va_P G vwCl [(hp0, .inr (1, [.ref hp0_memory, .int p0_size, .ref hp0_stack, .int p0_depth, .ref hp0_starts, .ref hp0_lengths, .int p0_blocks])), (hp0_starts, .inl (E.1, 8, .inl p0_starts))] H → va_D A [(hp0, .inr (1, [.ref hp0_memory, .int p0_size, .ref hp0_stack, .int p0_depth, .ref hp0_starts, .ref hp0_lengths, .int p0_blocks])), (hp0_starts, .inl (E.1, 8, .inl p0_starts))] → va_S A s.heap H locs → lv_has ls 3 [(0, .ref hp0), (1, .int i1), (2, .int z1)] → W p l e w_rm_X1_blockAt s m args below meth c H locs 0 0 Q (F0 m 2 ls []) := by
    intro K28 hK28 n
    induction n with
    | zero =>
      intro z1 h
      replace h : (none : Option (Int32)) = some (r) := h
      cases h
    | succ n ih =>
      intro z1 h H locs ls hP hD hS hl
      replace h : B_X1_blockAt_2 i1 p0_blocks p0_starts (fun z1 => L_X1_blockAt_2 i1 p0_blocks p0_starts K28 n z1) K28 z1 = some (r) := h
      obtain ⟨rec2, hrec2⟩ : ∃ f : Int32 → Option (Int32), f = (fun z1 => L_X1_blockAt_2 i1 p0_blocks p0_starts K28 n z1) := ⟨_, rfl⟩
      rw [← hrec2] at h
      unfold B_X1_blockAt_2 at h
      refine lv_iload_n hx hb dX1_blockAt_2 rfl (lv_at hl 2 rfl) ?_
      refine lv_aload_n hx hb dX1_blockAt_3 rfl (lv_at hl 0 rfl) ?_
      refine getF (D := G) (ci := 1) (v := .int p0_blocks) (C := RX1) (T := TX1) (N := 7) hx hb hts inG_X1 hown hK.1 hP 0 rfl rfl 6 (by decide) tf_X1_6 (hts _ wd_82724fa2) rfl dX1_blockAt_4 ?_
      refine lv_icmp_ge (tgt := 28) hx hb dX1_blockAt_7 (by decide) (fun c2 => ?_) (fun c2 => ?_)
      · replace h := if_t h c2
        exact hK28 z1 h _ _ _ hP hD hS (lv_sub hl [] rfl)
      · replace h := if_f h c2
        refine lv_aload_n hx hb dX1_blockAt_10 rfl (lv_at hl 0 rfl) ?_
        refine getF (D := G) (ci := 1) (v := .ref hp0_starts) (C := RX1) (T := TX1) (N := 7) hx hb hts inG_X1 hown hK.1 hP 0 rfl rfl 4 (by decide) tf_X1_4 (hts _ wd_30cca9c2) rfl dX1_blockAt_11 ?_
        refine lv_iload_n hx hb dX1_blockAt_14 rfl (lv_at hl 2 rfl) ?_
        obtain ⟨g3, h⟩ := gin_t h
        refine va_iald hx hb hK.1 hP 1 0 rfl rfl g3 dX1_blockAt_15 ?_
        refine lv_iload_n hx hb dX1_blockAt_16 rfl (lv_at hl 1 rfl) ?_
        refine lv_icmp_ne (tgt := 22) hx hb dX1_blockAt_17 (by decide) (fun c4 => ?_) (fun c4 => ?_)
        · replace h := if_f h c4
          obtain ⟨x5, ex5⟩ : ∃ y : Int32, y = z1 + 1 := ⟨_, rfl⟩
          replace h := bn_t h ex5
          refine lv_iinc (v := x5) (lv' := [(2, .int x5), (0, .ref hp0), (1, .int i1)]) hx hb dX1_blockAt_22 hl (k := 2) rfl (by rw [ex5]; rfl) (by decide) rfl (fun ls hl => ?_)
          refine lv_goto (tgt := 2) hx hb dX1_blockAt_25 (by decide) ?_
          exact ih x5 (by rw [hrec2] at h; exact h) _ _ _ hP hD hS (lv_sub hl [1, 2, 0] rfl)
        · replace h := if_t h c4
          refine lv_iload_n hx hb dX1_blockAt_20 rfl (lv_at hl 2 rfl) ?_
          exact ret (z1) (Option.some.inj h) _ _ _ _ _ (fun _ => 0) rfl rfl hP hD hS dX1_blockAt_21
  refine hL2 _ (fun z1 h H locs ls hP hD hS hl => ?_) N (0 : Int32) h _ _ _ hP hD hS (lv_sub hl [1, 2, 0] rfl)
  try dsimp only at h
  refine lv_iconst (v := (-1)) hx hb dX1_blockAt_28 (by decide) ?_
  exact ret ((-1 : Int32)) (Option.some.inj h) _ _ _ _ _ (fun _ => 0) rfl rfl hP hD hS dX1_blockAt_29
def J_X1_fits_70 (z6 : Int32) (rec27 : Int32 → Option (Int32))  : Option (Int32) :=
  bn (z6 + 1) fun x11 =>
  rec27 x11
def B_X1_fits_27 (i1 : Int32) (i2 : Int32) (p0_blocks : Int32) (p0_starts : (Nat → Int32)) (p0_lengths : (Nat → Int32)) (rec27 : Int32 → Option (Int32)) (K76 : Int32 → Option (Int32)) (z6 : Int32) : Option (Int32) :=
  if p0_blocks ≤ z6 then (
  K76 z6)
  else
  gin z6 8 <|
  gin z6 8 <|
  if ((p0_starts z6.toNatClampNeg) + (p0_lengths z6.toNatClampNeg)) ≤ i1 then (
  J_X1_fits_70 z6 rec27)
  else
  gin z6 8 <|
  if (i1 + i2) ≤ (p0_starts z6.toNatClampNeg) then (
  J_X1_fits_70 z6 rec27)
  else
  some ((0 : Int32))
def L_X1_fits_27 (i1 : Int32) (i2 : Int32) (p0_blocks : Int32) (p0_starts : (Nat → Int32)) (p0_lengths : (Nat → Int32)) (K76 : Int32 → Option (Int32)) : Nat → Int32 → Option (Int32)
    | 0, _ => none
    | n + 1, z6 => B_X1_fits_27 i1 i2 p0_blocks p0_starts p0_lengths (fun z6 => L_X1_fits_27 i1 i2 p0_blocks p0_starts p0_lengths K76 n z6) K76 z6
def f_X1_fits (N : Nat) (i1 : Int32) (i2 : Int32) (i3 : Int32) (p0_size : Int32) (p0_blocks : Int32) (p0_starts : (Nat → Int32)) (p0_lengths : (Nat → Int32)) : Option (Int32) :=
  if i1 < i3 then (
  some ((0 : Int32)))
  else
  bd (f_X7_isBlockLength i2) fun u2 =>
  if u2 = 0 then (
  some ((0 : Int32)))
  else
  if i1 ≤ (p0_size - i2) then (
  L_X1_fits_27 i1 i2 p0_blocks p0_starts p0_lengths 
  (fun z6 =>
  some ((1 : Int32))) N (0 : Int32))
  else
  some ((0 : Int32))
abbrev w_rm_X1_fits : Room := { frames := 1, cells := 0, slots := 0, locals := 20 }
set_option maxHeartbeats 4000000 in
set_option maxRecDepth 100000 in
theorem c_X1_fits (l : Launch) (G : va_G) (E : ClassId × ClassId × ClassId) (N : Nat) (hp0 : Nat) (hp0_memory : Nat) (p0_size : Int32) (hp0_stack : Nat) (p0_depth : Int32) (hp0_starts : Nat) (hp0_lengths : Nat) (p0_blocks : Int32) (p0_starts : (Nat → Int32)) (p0_lengths : (Nat → Int32)) (i1 : Int32) (i2 : Int32) (i3 : Int32) (r : Int32) (h : f_X1_fits N i1 i2 i3 p0_size p0_blocks p0_starts p0_lengths = some (r)) : MI l G E yX1_fits cX1_fits 5 .boolean w_rm_X1_fits [.ref hp0, .int i1, .int i2, .int i3] [(hp0, .inr (1, [.ref hp0_memory, .int p0_size, .ref hp0_stack, .int p0_depth, .ref hp0_starts, .ref hp0_lengths, .int p0_blocks])), (hp0_starts, .inl (E.1, 8, .inl p0_starts)), (hp0_lengths, .inl (E.1, 8, .inl p0_lengths))] r (fun a => [(hp0, .inr (1, [.ref hp0_memory, .int p0_size, .ref hp0_stack, .int p0_depth, .ref hp0_starts, .ref hp0_lengths, .int p0_blocks])), (hp0_starts, .inl (E.1, 8, .inl p0_starts)), (hp0_lengths, .inl (E.1, 8, .inl p0_lengths))]) 0 0 := by
  refine MI_of (by decide) (Nat.le_of_ble_eq_true rfl) ?_
  intro p e s m args below meth c A Q hx hb hml hown hts hK hA hP hD hS ret ls hl
  replace ret : ∀ (R : (Int32)), R = (r) → ∀ (H : Heap) (locs : List Loc) (pc : Nat) (ls : Array Slot) (v : Int32) (a : Nat → Nat), v = R → narrow .boolean (.int v) = .int v → va_P G vwCl [(hp0, .inr (1, [.ref hp0_memory, .int p0_size, .ref hp0_stack, .int p0_depth, .ref hp0_starts, .ref hp0_lengths, .int p0_blocks])), (hp0_starts, .inl (E.1, 8, .inl p0_starts)), (hp0_lengths, .inl (E.1, 8, .inl p0_lengths))] H → va_D A [(hp0, .inr (1, [.ref hp0_memory, .int p0_size, .ref hp0_stack, .int p0_depth, .ref hp0_starts, .ref hp0_lengths, .int p0_blocks])), (hp0_starts, .inl (E.1, 8, .inl p0_starts)), (hp0_lengths, .inl (E.1, 8, .inl p0_lengths))] → va_S A s.heap H locs → decode cX1_fits pc = .ok (.ireturn, 1) → W p l e w_rm_X1_fits s m args below meth c H locs 0 0 Q (F0 m pc ls [.int v]) := by
    intro R hR
    subst hR
    exact ret
  replace hl : lv_has ls 5 [(0, .ref hp0), (1, .int i1), (2, .int i2), (3, .int i3)] := hl
  unfold f_X1_fits at h
  refine lv_iload_n hx hb dX1_fits_0 rfl (lv_at hl 1 rfl) ?_
  refine lv_iload_n hx hb dX1_fits_1 rfl (lv_at hl 3 rfl) ?_
  refine lv_icmp_lt (tgt := 22) hx hb dX1_fits_2 (by decide) (fun c1 => ?_) (fun c1 => ?_)
  · replace h := if_t h c1
    refine lv_iconst (v := 0) hx hb dX1_fits_22 (by decide) ?_
    exact ret ((0 : Int32)) (Option.some.inj h) _ _ _ _ _ (fun _ => 0) rfl rfl hP hD hS dX1_fits_23
  · replace h := if_f h c1
    refine lv_iload_n hx hb dX1_fits_5 rfl (lv_at hl 2 rfl) ?_
    obtain ⟨u2, hu2, h⟩ := bd_t h
    refine cSNi (wr := [(hp0, .inr (1, [.ref hp0_memory, .int p0_size, .ref hp0_stack, .int p0_depth, .ref hp0_starts, .ref hp0_lengths, .int p0_blocks])), (hp0_starts, .inl (E.1, 8, .inl p0_starts)), (hp0_lengths, .inl (E.1, 8, .inl p0_lengths))]) (As := [.int i2]) (rest := []) ⟨hx, hb, hml, hown, hts⟩ (c_X7_isBlockLength l G E i2 u2 hu2) ok_X7_isBlockLength oks_X7_isBlockLength (hK.2.1 (.methodLinkNest RX1 54 yX7_isBlockLength "GlulxSaves") (by decide +kernel)) ⟨Nat.le_of_ble_eq_true rfl, Nat.le_of_ble_eq_true rfl⟩ hK hP hD hS hA [] [0, 1, 2] rfl rfl (by decide) (by decide) (by decide) rfl hl.1 rfl (Nat.le_of_ble_eq_true rfl) dX1_fits_6 ⟨Nat.le_of_ble_eq_true rfl, Nat.le_of_ble_eq_true rfl⟩ (fun H locs a3 hP hD hS => ?_)
    have hP : va_P G vwCl [(hp0, .inr (1, [.ref hp0_memory, .int p0_size, .ref hp0_stack, .int p0_depth, .ref hp0_starts, .ref hp0_lengths, .int p0_blocks])), (hp0_starts, .inl (E.1, 8, .inl p0_starts)), (hp0_lengths, .inl (E.1, 8, .inl p0_lengths))] H := hP
    have hD : va_D A [(hp0, .inr (1, [.ref hp0_memory, .int p0_size, .ref hp0_stack, .int p0_depth, .ref hp0_starts, .ref hp0_lengths, .int p0_blocks])), (hp0_starts, .inl (E.1, 8, .inl p0_starts)), (hp0_lengths, .inl (E.1, 8, .inl p0_lengths))] := hD
    refine lv_if_eq (tgt := 22) hx hb dX1_fits_9 (by decide) (fun c4 => ?_) (fun c4 => ?_)
    · replace h := if_t h c4
      refine lv_iconst (v := 0) hx hb dX1_fits_22 (by decide) ?_
      exact ret ((0 : Int32)) (Option.some.inj h) _ _ _ _ _ (fun _ => 0) rfl rfl hP hD hS dX1_fits_23
    · replace h := if_f h c4
      refine lv_iload_n hx hb dX1_fits_12 rfl (lv_at hl 1 rfl) ?_
      refine lv_aload_n hx hb dX1_fits_13 rfl (lv_at hl 0 rfl) ?_
      refine getF (D := G) (ci := 1) (v := .int p0_size) (C := RX1) (T := TX1) (N := 7) hx hb hts inG_X1 hown hK.1 hP 0 rfl rfl 1 (by decide) tf_X1_1 (hts _ wd_41c784e1) rfl dX1_fits_14 ?_
      refine lv_iload_n hx hb dX1_fits_17 rfl (lv_at hl 2 rfl) ?_
      refine lv_isub hx hb dX1_fits_18 ?_
      refine lv_icmp_le (tgt := 24) hx hb dX1_fits_19 (by decide) (fun c5 => ?_) (fun c5 => ?_)
      · replace h := if_t h c5
        refine lv_iconst (v := 0) hx hb dX1_fits_24 (by decide) ?_
        refine lv_istore (lv' := [(4, .int (0 : Int32)), (0, .ref hp0), (1, .int i1), (2, .int i2), (3, .int i3)]) hx hb dX1_fits_25 hl (by decide) rfl (fun ls hl => ?_)
        have hL27 : ∀ (K76 : Int32 → Option (Int32)), (∀ (z6 : Int32), K76 z6 = some (r) → ∀ (H : Heap) (locs : List Loc) (ls : Array Slot), va_P G vwCl [(hp0, .inr (1, [.ref hp0_memory, .int p0_size, .ref hp0_stack, .int p0_depth, .ref hp0_starts, .ref hp0_lengths, .int p0_blocks])), (hp0_starts, .inl (E.1, 8, .inl p0_starts)), (hp0_lengths, .inl (E.1, 8, .inl p0_lengths))] H → va_D A [(hp0, .inr (1, [.ref hp0_memory, .int p0_size, .ref hp0_stack, .int p0_depth, .ref hp0_starts, .ref hp0_lengths, .int p0_blocks])), (hp0_starts, .inl (E.1, 8, .inl p0_starts)), (hp0_lengths, .inl (E.1, 8, .inl p0_lengths))] → va_S A s.heap H locs → lv_has ls 5 [] → W p l e w_rm_X1_fits s m args below meth c H locs 0 0 Q (F0 m 76 ls [])) → ∀ (n : Nat) (z6 : Int32), L_X1_fits_27 i1 i2 p0_blocks p0_starts p0_lengths K76 n z6 = some (r) → ∀ (H : Heap) (locs : List Loc) (ls : Array Slot), va_P G vwCl [(hp0, .inr (1, [.ref hp0_memory, .int p0_size, .ref hp0_stack, .int p0_depth, .ref hp0_starts, .ref hp0_lengths, .int p0_blocks])), (hp0_starts, .inl (E.1, 8, .inl p0_starts)), (hp0_lengths, .inl (E.1, 8, .inl p0_lengths))] H → va_D A [(hp0, .inr (1, [.ref hp0_memory, .int p0_size, .ref hp0_stack, .int p0_depth, .ref hp0_starts, .ref hp0_lengths, .int p0_blocks])), (hp0_starts, .inl (E.1, 8, .inl p0_starts)), (hp0_lengths, .inl (E.1, 8, .inl p0_lengths))] → va_S A s.heap H locs → lv_has ls 5 [(0, .ref hp0), (1, .int i1), (2, .int i2), (4, .int z6)] → W p l e w_rm_X1_fits s m args below meth c H locs 0 0 Q (F0 m 27 ls []) := by
          intro K76 hK76 n
          induction n with
          | zero =>
            intro z6 h
            replace h : (none : Option (Int32)) = some (r) := h
            cases h
          | succ n ih =>
            intro z6 h H locs ls hP hD hS hl
            replace h : B_X1_fits_27 i1 i2 p0_blocks p0_starts p0_lengths (fun z6 => L_X1_fits_27 i1 i2 p0_blocks p0_starts p0_lengths K76 n z6) K76 z6 = some (r) := h
            obtain ⟨rec27, hrec27⟩ : ∃ f : Int32 → Option (Int32), f = (fun z6 => L_X1_fits_27 i1 i2 p0_blocks p0_starts p0_lengths K76 n z6) := ⟨_, rfl⟩
            rw [← hrec27] at h
            unfold B_X1_fits_27 at h
            refine lv_iload hx hb dX1_fits_27 (lv_at hl 3 rfl) ?_
            refine lv_aload_n hx hb dX1_fits_29 rfl (lv_at hl 0 rfl) ?_
            refine getF (D := G) (ci := 1) (v := .int p0_blocks) (C := RX1) (T := TX1) (N := 7) hx hb hts inG_X1 hown hK.1 hP 0 rfl rfl 6 (by decide) tf_X1_6 (hts _ wd_82724fa2) rfl dX1_fits_30 ?_
            refine lv_icmp_ge (tgt := 76) hx hb dX1_fits_33 (by decide) (fun c7 => ?_) (fun c7 => ?_)
            · replace h := if_t h c7
              exact hK76 z6 h _ _ _ hP hD hS (lv_sub hl [] rfl)
            · replace h := if_f h c7
              refine lv_iload_n hx hb dX1_fits_36 rfl (lv_at hl 1 rfl) ?_
              refine lv_aload_n hx hb dX1_fits_37 rfl (lv_at hl 0 rfl) ?_
              refine getF (D := G) (ci := 1) (v := .ref hp0_starts) (C := RX1) (T := TX1) (N := 7) hx hb hts inG_X1 hown hK.1 hP 0 rfl rfl 4 (by decide) tf_X1_4 (hts _ wd_30cca9c2) rfl dX1_fits_38 ?_
              refine lv_iload hx hb dX1_fits_41 (lv_at hl 3 rfl) ?_
              obtain ⟨g8, h⟩ := gin_t h
              refine va_iald hx hb hK.1 hP 1 0 rfl rfl g8 dX1_fits_43 ?_
              refine lv_aload_n hx hb dX1_fits_44 rfl (lv_at hl 0 rfl) ?_
              refine getF (D := G) (ci := 1) (v := .ref hp0_lengths) (C := RX1) (T := TX1) (N := 7) hx hb hts inG_X1 hown hK.1 hP 0 rfl rfl 5 (by decide) tf_X1_5 (hts _ wd_2f64a7ae) rfl dX1_fits_45 ?_
              refine lv_iload hx hb dX1_fits_48 (lv_at hl 3 rfl) ?_
              obtain ⟨g9, h⟩ := gin_t h
              refine va_iald hx hb hK.1 hP 2 0 rfl rfl g9 dX1_fits_50 ?_
              refine lv_iadd hx hb dX1_fits_51 ?_
              have hJ70 : ∀ (_ : Unit), J_X1_fits_70 z6 rec27 = some (r) → ∀ (H : Heap) (locs : List Loc) (ls : Array Slot), va_P G vwCl [(hp0, .inr (1, [.ref hp0_memory, .int p0_size, .ref hp0_stack, .int p0_depth, .ref hp0_starts, .ref hp0_lengths, .int p0_blocks])), (hp0_starts, .inl (E.1, 8, .inl p0_starts)), (hp0_lengths, .inl (E.1, 8, .inl p0_lengths))] H → va_D A [(hp0, .inr (1, [.ref hp0_memory, .int p0_size, .ref hp0_stack, .int p0_depth, .ref hp0_starts, .ref hp0_lengths, .int p0_blocks])), (hp0_starts, .inl (E.1, 8, .inl p0_starts)), (hp0_lengths, .inl (E.1, 8, .inl p0_lengths))] → va_S A s.heap H locs → lv_has ls 5 [(0, .ref hp0), (1, .int i1), (2, .int i2), (4, .int z6)] → W p l e w_rm_X1_fits s m args below meth c H locs 0 0 Q (F0 m 70 ls []) := by
                intro _ h H locs ls hP hD hS hl
                unfold J_X1_fits_70 at h
                obtain ⟨x11, ex11⟩ : ∃ y : Int32, y = z6 + 1 := ⟨_, rfl⟩
                replace h := bn_t h ex11
                refine lv_iinc (v := x11) (lv' := [(4, .int x11), (0, .ref hp0), (1, .int i1), (2, .int i2)]) hx hb dX1_fits_70 hl (k := 3) rfl (by rw [ex11]; rfl) (by decide) rfl (fun ls hl => ?_)
                refine lv_goto (tgt := 27) hx hb dX1_fits_73 (by decide) ?_
                exact ih x11 (by rw [hrec27] at h; exact h) _ _ _ hP hD hS (lv_sub hl [1, 2, 3, 0] rfl)
              refine lv_icmp_ge (tgt := 70) hx hb dX1_fits_52 (by decide) (fun c10 => ?_) (fun c10 => ?_)
              · replace h := if_t h c10
                exact hJ70 () h _ _ _ hP hD hS hl
              · replace h := if_f h c10
                refine lv_aload_n hx hb dX1_fits_55 rfl (lv_at hl 0 rfl) ?_
                refine getF (D := G) (ci := 1) (v := .ref hp0_starts) (C := RX1) (T := TX1) (N := 7) hx hb hts inG_X1 hown hK.1 hP 0 rfl rfl 4 (by decide) tf_X1_4 (hts _ wd_30cca9c2) rfl dX1_fits_56 ?_
                refine lv_iload hx hb dX1_fits_59 (lv_at hl 3 rfl) ?_
                obtain ⟨g12, h⟩ := gin_t h
                refine va_iald hx hb hK.1 hP 1 0 rfl rfl g12 dX1_fits_61 ?_
                refine lv_iload_n hx hb dX1_fits_62 rfl (lv_at hl 1 rfl) ?_
                refine lv_iload_n hx hb dX1_fits_63 rfl (lv_at hl 2 rfl) ?_
                refine lv_iadd hx hb dX1_fits_64 ?_
                refine lv_icmp_ge (tgt := 70) hx hb dX1_fits_65 (by decide) (fun c13 => ?_) (fun c13 => ?_)
                · replace h := if_t h c13
                  exact hJ70 () h _ _ _ hP hD hS hl
                · replace h := if_f h c13
                  refine lv_iconst (v := 0) hx hb dX1_fits_68 (by decide) ?_
                  exact ret ((0 : Int32)) (Option.some.inj h) _ _ _ _ _ (fun _ => 0) rfl rfl hP hD hS dX1_fits_69
        refine hL27 _ (fun z6 h H locs ls hP hD hS hl => ?_) N (0 : Int32) h _ _ _ hP hD hS (lv_sub hl [1, 2, 3, 0] rfl)
        try dsimp only at h
        refine lv_iconst (v := 1) hx hb dX1_fits_76 (by decide) ?_
        exact ret ((1 : Int32)) (Option.some.inj h) _ _ _ _ _ (fun _ => 0) rfl rfl hP hD hS dX1_fits_77
      · replace h := if_f h c5
        refine lv_iconst (v := 0) hx hb dX1_fits_22 (by decide) ?_
        exact ret ((0 : Int32)) (Option.some.inj h) _ _ _ _ _ (fun _ => 0) rfl rfl hP hD hS dX1_fits_23
def B_X1_addBlock_16 (i1 : Int32) (rec16 : (Nat → Int32) → (Nat → Int32) → Int32 → Option (Int32 × (Nat → Int32) × (Nat → Int32) × Int32)) (K66 : (Nat → Int32) → (Nat → Int32) → Int32 → Option (Int32 × (Nat → Int32) × (Nat → Int32) × Int32)) (z2 : (Nat → Int32)) (z3 : (Nat → Int32)) (z4 : Int32) : Option (Int32 × (Nat → Int32) × (Nat → Int32) × Int32) :=
  if z4 ≤ 0 then (
  K66 z2 z3 z4)
  else
  gin (z4 - (1 : Int32)) 8 <|
  if (z2 (z4 - (1 : Int32)).toNatClampNeg) ≤ i1 then (
  K66 z2 z3 z4)
  else
  gin (z4 - (1 : Int32)) 8 <|
  bn (z2 (z4 - (1 : Int32)).toNatClampNeg) fun x9 =>
  gin z4 8 <|
  bn (upd z2 z4.toNatClampNeg x9) fun m11 =>
  gin (z4 - (1 : Int32)) 8 <|
  bn (z3 (z4 - (1 : Int32)).toNatClampNeg) fun x13 =>
  gin z4 8 <|
  bn (upd z3 z4.toNatClampNeg x13) fun m15 =>
  bn (z4 + (-1)) fun x16 =>
  rec16 m11 m15 x16
def L_X1_addBlock_16 (i1 : Int32) (K66 : (Nat → Int32) → (Nat → Int32) → Int32 → Option (Int32 × (Nat → Int32) × (Nat → Int32) × Int32)) : Nat → (Nat → Int32) → (Nat → Int32) → Int32 → Option (Int32 × (Nat → Int32) × (Nat → Int32) × Int32)
    | 0, _, _, _ => none
    | n + 1, z2, z3, z4 => B_X1_addBlock_16 i1 (fun z2 z3 z4 => L_X1_addBlock_16 i1 K66 n z2 z3 z4) K66 z2 z3 z4
def f_X1_addBlock (N : Nat) (i1 : Int32) (i2 : Int32) (p0_blocks : Int32) (p0_starts : (Nat → Int32)) (p0_lengths : (Nat → Int32)) : Option (Int32 × (Nat → Int32) × (Nat → Int32) × Int32) :=
  if p0_blocks < (8 : Int32) then (
  L_X1_addBlock_16 i1 
  (fun z2 z3 z4 =>
  gin z4 8 <|
  bn (upd z2 z4.toNatClampNeg i1) fun m18 =>
  gin z4 8 <|
  bn (upd z3 z4.toNatClampNeg i2) fun m20 =>
  bn (p0_blocks + (1 : Int32)) fun x21 =>
  some ((1 : Int32), m18, m20, x21)) N p0_starts p0_lengths p0_blocks)
  else
  some ((0 : Int32), p0_starts, p0_lengths, p0_blocks)
abbrev w_rm_X1_addBlock : Room := { frames := 0, cells := 0, slots := 0, locals := 0 }
set_option maxHeartbeats 4000000 in
set_option maxRecDepth 100000 in
theorem c_X1_addBlock (l : Launch) (G : va_G) (E : ClassId × ClassId × ClassId) (N : Nat) (hp0 : Nat) (hp0_memory : Nat) (p0_size : Int32) (hp0_stack : Nat) (p0_depth : Int32) (hp0_starts : Nat) (hp0_lengths : Nat) (p0_blocks : Int32) (p0_starts : (Nat → Int32)) (p0_lengths : (Nat → Int32)) (i1 : Int32) (i2 : Int32) (r : Int32) (o0 : (Nat → Int32)) (o1 : (Nat → Int32)) (o2 : Int32) (h : f_X1_addBlock N i1 i2 p0_blocks p0_starts p0_lengths = some (r, o0, o1, o2)) : MI l G E yX1_addBlock cX1_addBlock 4 .boolean w_rm_X1_addBlock [.ref hp0, .int i1, .int i2] [(hp0, .inr (1, [.ref hp0_memory, .int p0_size, .ref hp0_stack, .int p0_depth, .ref hp0_starts, .ref hp0_lengths, .int p0_blocks])), (hp0_starts, .inl (E.1, 8, .inl p0_starts)), (hp0_lengths, .inl (E.1, 8, .inl p0_lengths))] r (fun a => [(hp0, .inr (1, [.ref hp0_memory, .int p0_size, .ref hp0_stack, .int p0_depth, .ref hp0_starts, .ref hp0_lengths, .int o2])), (hp0_starts, .inl (E.1, 8, .inl o0)), (hp0_lengths, .inl (E.1, 8, .inl o1))]) 0 0 := by
  refine MI_of (by decide) (Nat.le_of_ble_eq_true rfl) ?_
  intro p e s m args below meth c A Q hx hb hml hown hts hK hA hP hD hS ret ls hl
  replace ret : ∀ (R : (Int32 × (Nat → Int32) × (Nat → Int32) × Int32)), R = (r, o0, o1, o2) → ∀ (H : Heap) (locs : List Loc) (pc : Nat) (ls : Array Slot) (v : Int32) (a : Nat → Nat), v = R.1 → narrow .boolean (.int v) = .int v → va_P G vwCl [(hp0, .inr (1, [.ref hp0_memory, .int p0_size, .ref hp0_stack, .int p0_depth, .ref hp0_starts, .ref hp0_lengths, .int R.2.2.2])), (hp0_starts, .inl (E.1, 8, .inl R.2.1)), (hp0_lengths, .inl (E.1, 8, .inl R.2.2.1))] H → va_D A [(hp0, .inr (1, [.ref hp0_memory, .int p0_size, .ref hp0_stack, .int p0_depth, .ref hp0_starts, .ref hp0_lengths, .int R.2.2.2])), (hp0_starts, .inl (E.1, 8, .inl R.2.1)), (hp0_lengths, .inl (E.1, 8, .inl R.2.2.1))] → va_S A s.heap H locs → decode cX1_addBlock pc = .ok (.ireturn, 1) → W p l e w_rm_X1_addBlock s m args below meth c H locs 0 0 Q (F0 m pc ls [.int v]) := by
    intro R hR
    subst hR
    exact ret
  replace hl : lv_has ls 4 [(0, .ref hp0), (1, .int i1), (2, .int i2)] := hl
  unfold f_X1_addBlock at h
  refine lv_aload_n hx hb dX1_addBlock_0 rfl (lv_at hl 0 rfl) ?_
  refine getF (D := G) (ci := 1) (v := .int p0_blocks) (C := RX1) (T := TX1) (N := 7) hx hb hts inG_X1 hown hK.1 hP 0 rfl rfl 6 (by decide) tf_X1_6 (hts _ wd_82724fa2) rfl dX1_addBlock_1 ?_
  refine lv_bipush (v := 8) hx hb dX1_addBlock_4 (by decide) ?_
  refine lv_icmp_lt (tgt := 11) hx hb dX1_addBlock_6 (by decide) (fun c1 => ?_) (fun c1 => ?_)
  · replace h := if_t h c1
    refine lv_aload_n hx hb dX1_addBlock_11 rfl (lv_at hl 0 rfl) ?_
    refine getF (D := G) (ci := 1) (v := .int p0_blocks) (C := RX1) (T := TX1) (N := 7) hx hb hts inG_X1 hown hK.1 hP 0 rfl rfl 6 (by decide) tf_X1_6 (hts _ wd_82724fa2) rfl dX1_addBlock_12 ?_
    refine lv_istore_n (lv' := [(3, .int p0_blocks), (0, .ref hp0), (1, .int i1), (2, .int i2)]) hx hb dX1_addBlock_15 rfl hl (by decide) rfl (fun ls hl => ?_)
    have hL16 : ∀ (K66 : (Nat → Int32) → (Nat → Int32) → Int32 → Option (Int32 × (Nat → Int32) × (Nat → Int32) × Int32)), (∀ (z2 : (Nat → Int32)) (z3 : (Nat → Int32)) (z4 : Int32), K66 z2 z3 z4 = some (r, o0, o1, o2) → ∀ (H : Heap) (locs : List Loc) (ls : Array Slot), va_P G vwCl [(hp0, .inr (1, [.ref hp0_memory, .int p0_size, .ref hp0_stack, .int p0_depth, .ref hp0_starts, .ref hp0_lengths, .int p0_blocks])), (hp0_starts, .inl (E.1, 8, .inl z2)), (hp0_lengths, .inl (E.1, 8, .inl z3))] H → va_D A [(hp0, .inr (1, [.ref hp0_memory, .int p0_size, .ref hp0_stack, .int p0_depth, .ref hp0_starts, .ref hp0_lengths, .int p0_blocks])), (hp0_starts, .inl (E.1, 8, .inl z2)), (hp0_lengths, .inl (E.1, 8, .inl z3))] → va_S A s.heap H locs → lv_has ls 4 [(0, .ref hp0), (1, .int i1), (2, .int i2), (3, .int z4)] → W p l e w_rm_X1_addBlock s m args below meth c H locs 0 0 Q (F0 m 66 ls [])) → ∀ (n : Nat) (z2 : (Nat → Int32)) (z3 : (Nat → Int32)) (z4 : Int32), L_X1_addBlock_16 i1 K66 n z2 z3 z4 = some (r, o0, o1, o2) → ∀ (H : Heap) (locs : List Loc) (ls : Array Slot), va_P G vwCl [(hp0, .inr (1, [.ref hp0_memory, .int p0_size, .ref hp0_stack, .int p0_depth, .ref hp0_starts, .ref hp0_lengths, .int p0_blocks])), (hp0_starts, .inl (E.1, 8, .inl z2)), (hp0_lengths, .inl (E.1, 8, .inl z3))] H → va_D A [(hp0, .inr (1, [.ref hp0_memory, .int p0_size, .ref hp0_stack, .int p0_depth, .ref hp0_starts, .ref hp0_lengths, .int p0_blocks])), (hp0_starts, .inl (E.1, 8, .inl z2)), (hp0_lengths, .inl (E.1, 8, .inl z3))] → va_S A s.heap H locs → lv_has ls 4 [(0, .ref hp0), (1, .int i1), (2, .int i2), (3, .int z4)] → W p l e w_rm_X1_addBlock s m args below meth c H locs 0 0 Q (F0 m 16 ls []) := by
      intro K66 hK66 n
      induction n with
      | zero =>
        intro z2 z3 z4 h
        replace h : (none : Option (Int32 × (Nat → Int32) × (Nat → Int32) × Int32)) = some (r, o0, o1, o2) := h
        cases h
      | succ n ih =>
        intro z2 z3 z4 h H locs ls hP hD hS hl
        replace h : B_X1_addBlock_16 i1 (fun z2 z3 z4 => L_X1_addBlock_16 i1 K66 n z2 z3 z4) K66 z2 z3 z4 = some (r, o0, o1, o2) := h
        obtain ⟨rec16, hrec16⟩ : ∃ f : (Nat → Int32) → (Nat → Int32) → Int32 → Option (Int32 × (Nat → Int32) × (Nat → Int32) × Int32), f = (fun z2 z3 z4 => L_X1_addBlock_16 i1 K66 n z2 z3 z4) := ⟨_, rfl⟩
        rw [← hrec16] at h
        unfold B_X1_addBlock_16 at h
        refine lv_iload_n hx hb dX1_addBlock_16 rfl (lv_at hl 3 rfl) ?_
        refine lv_if_le (tgt := 66) hx hb dX1_addBlock_17 (by decide) (fun c5 => ?_) (fun c5 => ?_)
        · replace h := if_t h c5
          exact hK66 z2 z3 z4 h _ _ _ hP hD hS hl
        · replace h := if_f h c5
          refine lv_aload_n hx hb dX1_addBlock_20 rfl (lv_at hl 0 rfl) ?_
          refine getF (D := G) (ci := 1) (v := .ref hp0_starts) (C := RX1) (T := TX1) (N := 7) hx hb hts inG_X1 hown hK.1 hP 0 rfl rfl 4 (by decide) tf_X1_4 (hts _ wd_30cca9c2) rfl dX1_addBlock_21 ?_
          refine lv_iload_n hx hb dX1_addBlock_24 rfl (lv_at hl 3 rfl) ?_
          refine lv_iconst (v := 1) hx hb dX1_addBlock_25 (by decide) ?_
          refine lv_isub hx hb dX1_addBlock_26 ?_
          obtain ⟨g6, h⟩ := gin_t h
          refine va_iald hx hb hK.1 hP 1 0 rfl rfl g6 dX1_addBlock_27 ?_
          refine lv_iload_n hx hb dX1_addBlock_28 rfl (lv_at hl 1 rfl) ?_
          refine lv_icmp_le (tgt := 66) hx hb dX1_addBlock_29 (by decide) (fun c7 => ?_) (fun c7 => ?_)
          · replace h := if_t h c7
            exact hK66 z2 z3 z4 h _ _ _ hP hD hS hl
          · replace h := if_f h c7
            refine lv_aload_n hx hb dX1_addBlock_32 rfl (lv_at hl 0 rfl) ?_
            refine getF (D := G) (ci := 1) (v := .ref hp0_starts) (C := RX1) (T := TX1) (N := 7) hx hb hts inG_X1 hown hK.1 hP 0 rfl rfl 4 (by decide) tf_X1_4 (hts _ wd_30cca9c2) rfl dX1_addBlock_33 ?_
            refine lv_iload_n hx hb dX1_addBlock_36 rfl (lv_at hl 3 rfl) ?_
            refine lv_aload_n hx hb dX1_addBlock_37 rfl (lv_at hl 0 rfl) ?_
            refine getF (D := G) (ci := 1) (v := .ref hp0_starts) (C := RX1) (T := TX1) (N := 7) hx hb hts inG_X1 hown hK.1 hP 0 rfl rfl 4 (by decide) tf_X1_4 (hts _ wd_30cca9c2) rfl dX1_addBlock_38 ?_
            refine lv_iload_n hx hb dX1_addBlock_41 rfl (lv_at hl 3 rfl) ?_
            refine lv_iconst (v := 1) hx hb dX1_addBlock_42 (by decide) ?_
            refine lv_isub hx hb dX1_addBlock_43 ?_
            obtain ⟨g8, h⟩ := gin_t h
            refine va_iald hx hb hK.1 hP 1 0 rfl rfl g8 dX1_addBlock_44 ?_
            refine lv_topi (fun x9 ex9 => ?_)
            replace h := bn_t h ex9
            obtain ⟨g10, h⟩ := gin_t h
            refine va_iast hx hb hK.1 hP hD hS 1 0 rfl rfl g10 dX1_addBlock_45 (fun H locs hP hD hS => ?_)
            have hP : va_P G vwCl [(hp0, .inr (1, [.ref hp0_memory, .int p0_size, .ref hp0_stack, .int p0_depth, .ref hp0_starts, .ref hp0_lengths, .int p0_blocks])), (hp0_starts, .inl (E.1, 8, .inl (upd z2 z4.toNatClampNeg x9))), (hp0_lengths, .inl (E.1, 8, .inl z3))] H := hP
            have hD : va_D A [(hp0, .inr (1, [.ref hp0_memory, .int p0_size, .ref hp0_stack, .int p0_depth, .ref hp0_starts, .ref hp0_lengths, .int p0_blocks])), (hp0_starts, .inl (E.1, 8, .inl (upd z2 z4.toNatClampNeg x9))), (hp0_lengths, .inl (E.1, 8, .inl z3))] := hD
            obtain ⟨m11, em11⟩ : ∃ y : Nat → Int32, y = upd z2 z4.toNatClampNeg x9 := ⟨_, rfl⟩
            replace h := bn_t h em11
            rw [← em11] at hP hD
            refine lv_aload_n hx hb dX1_addBlock_46 rfl (lv_at hl 0 rfl) ?_
            refine getF (D := G) (ci := 1) (v := .ref hp0_lengths) (C := RX1) (T := TX1) (N := 7) hx hb hts inG_X1 hown hK.1 hP 0 rfl rfl 5 (by decide) tf_X1_5 (hts _ wd_2f64a7ae) rfl dX1_addBlock_47 ?_
            refine lv_iload_n hx hb dX1_addBlock_50 rfl (lv_at hl 3 rfl) ?_
            refine lv_aload_n hx hb dX1_addBlock_51 rfl (lv_at hl 0 rfl) ?_
            refine getF (D := G) (ci := 1) (v := .ref hp0_lengths) (C := RX1) (T := TX1) (N := 7) hx hb hts inG_X1 hown hK.1 hP 0 rfl rfl 5 (by decide) tf_X1_5 (hts _ wd_2f64a7ae) rfl dX1_addBlock_52 ?_
            refine lv_iload_n hx hb dX1_addBlock_55 rfl (lv_at hl 3 rfl) ?_
            refine lv_iconst (v := 1) hx hb dX1_addBlock_56 (by decide) ?_
            refine lv_isub hx hb dX1_addBlock_57 ?_
            obtain ⟨g12, h⟩ := gin_t h
            refine va_iald hx hb hK.1 hP 2 0 rfl rfl g12 dX1_addBlock_58 ?_
            refine lv_topi (fun x13 ex13 => ?_)
            replace h := bn_t h ex13
            obtain ⟨g14, h⟩ := gin_t h
            refine va_iast hx hb hK.1 hP hD hS 2 0 rfl rfl g14 dX1_addBlock_59 (fun H locs hP hD hS => ?_)
            have hP : va_P G vwCl [(hp0, .inr (1, [.ref hp0_memory, .int p0_size, .ref hp0_stack, .int p0_depth, .ref hp0_starts, .ref hp0_lengths, .int p0_blocks])), (hp0_starts, .inl (E.1, 8, .inl m11)), (hp0_lengths, .inl (E.1, 8, .inl (upd z3 z4.toNatClampNeg x13)))] H := hP
            have hD : va_D A [(hp0, .inr (1, [.ref hp0_memory, .int p0_size, .ref hp0_stack, .int p0_depth, .ref hp0_starts, .ref hp0_lengths, .int p0_blocks])), (hp0_starts, .inl (E.1, 8, .inl m11)), (hp0_lengths, .inl (E.1, 8, .inl (upd z3 z4.toNatClampNeg x13)))] := hD
            obtain ⟨m15, em15⟩ : ∃ y : Nat → Int32, y = upd z3 z4.toNatClampNeg x13 := ⟨_, rfl⟩
            replace h := bn_t h em15
            rw [← em15] at hP hD
            obtain ⟨x16, ex16⟩ : ∃ y : Int32, y = z4 + (-1) := ⟨_, rfl⟩
            replace h := bn_t h ex16
            refine lv_iinc (v := x16) (lv' := [(3, .int x16), (0, .ref hp0), (1, .int i1), (2, .int i2)]) hx hb dX1_addBlock_60 hl (k := 3) rfl (by rw [ex16]; rfl) (by decide) rfl (fun ls hl => ?_)
            refine lv_goto (tgt := 16) hx hb dX1_addBlock_63 (by decide) ?_
            exact ih m11 m15 x16 (by rw [hrec16] at h; exact h) _ _ _ hP hD hS (lv_sub hl [1, 2, 3, 0] rfl)
    refine hL16 _ (fun z2 z3 z4 h H locs ls hP hD hS hl => ?_) N p0_starts p0_lengths p0_blocks h _ _ _ hP hD hS (lv_sub hl [1, 2, 3, 0] rfl)
    try dsimp only at h
    refine lv_aload_n hx hb dX1_addBlock_66 rfl (lv_at hl 0 rfl) ?_
    refine getF (D := G) (ci := 1) (v := .ref hp0_starts) (C := RX1) (T := TX1) (N := 7) hx hb hts inG_X1 hown hK.1 hP 0 rfl rfl 4 (by decide) tf_X1_4 (hts _ wd_30cca9c2) rfl dX1_addBlock_67 ?_
    refine lv_iload_n hx hb dX1_addBlock_70 rfl (lv_at hl 3 rfl) ?_
    refine lv_iload_n hx hb dX1_addBlock_71 rfl (lv_at hl 1 rfl) ?_
    obtain ⟨g17, h⟩ := gin_t h
    refine va_iast hx hb hK.1 hP hD hS 1 0 rfl rfl g17 dX1_addBlock_72 (fun H locs hP hD hS => ?_)
    have hP : va_P G vwCl [(hp0, .inr (1, [.ref hp0_memory, .int p0_size, .ref hp0_stack, .int p0_depth, .ref hp0_starts, .ref hp0_lengths, .int p0_blocks])), (hp0_starts, .inl (E.1, 8, .inl (upd z2 z4.toNatClampNeg i1))), (hp0_lengths, .inl (E.1, 8, .inl z3))] H := hP
    have hD : va_D A [(hp0, .inr (1, [.ref hp0_memory, .int p0_size, .ref hp0_stack, .int p0_depth, .ref hp0_starts, .ref hp0_lengths, .int p0_blocks])), (hp0_starts, .inl (E.1, 8, .inl (upd z2 z4.toNatClampNeg i1))), (hp0_lengths, .inl (E.1, 8, .inl z3))] := hD
    obtain ⟨m18, em18⟩ : ∃ y : Nat → Int32, y = upd z2 z4.toNatClampNeg i1 := ⟨_, rfl⟩
    replace h := bn_t h em18
    rw [← em18] at hP hD
    refine lv_aload_n hx hb dX1_addBlock_73 rfl (lv_at hl 0 rfl) ?_
    refine getF (D := G) (ci := 1) (v := .ref hp0_lengths) (C := RX1) (T := TX1) (N := 7) hx hb hts inG_X1 hown hK.1 hP 0 rfl rfl 5 (by decide) tf_X1_5 (hts _ wd_2f64a7ae) rfl dX1_addBlock_74 ?_
    refine lv_iload_n hx hb dX1_addBlock_77 rfl (lv_at hl 3 rfl) ?_
    refine lv_iload_n hx hb dX1_addBlock_78 rfl (lv_at hl 2 rfl) ?_
    obtain ⟨g19, h⟩ := gin_t h
    refine va_iast hx hb hK.1 hP hD hS 2 0 rfl rfl g19 dX1_addBlock_79 (fun H locs hP hD hS => ?_)
    have hP : va_P G vwCl [(hp0, .inr (1, [.ref hp0_memory, .int p0_size, .ref hp0_stack, .int p0_depth, .ref hp0_starts, .ref hp0_lengths, .int p0_blocks])), (hp0_starts, .inl (E.1, 8, .inl m18)), (hp0_lengths, .inl (E.1, 8, .inl (upd z3 z4.toNatClampNeg i2)))] H := hP
    have hD : va_D A [(hp0, .inr (1, [.ref hp0_memory, .int p0_size, .ref hp0_stack, .int p0_depth, .ref hp0_starts, .ref hp0_lengths, .int p0_blocks])), (hp0_starts, .inl (E.1, 8, .inl m18)), (hp0_lengths, .inl (E.1, 8, .inl (upd z3 z4.toNatClampNeg i2)))] := hD
    obtain ⟨m20, em20⟩ : ∃ y : Nat → Int32, y = upd z3 z4.toNatClampNeg i2 := ⟨_, rfl⟩
    replace h := bn_t h em20
    rw [← em20] at hP hD
    refine lv_aload_n hx hb dX1_addBlock_80 rfl (lv_at hl 0 rfl) ?_
    refine lv_dup hx hb dX1_addBlock_81 rfl ?_
    refine getF (D := G) (ci := 1) (v := .int p0_blocks) (C := RX1) (T := TX1) (N := 7) hx hb hts inG_X1 hown hK.1 hP 0 rfl rfl 6 (by decide) tf_X1_6 (hts _ wd_82724fa2) rfl dX1_addBlock_82 ?_
    refine lv_iconst (v := 1) hx hb dX1_addBlock_85 (by decide) ?_
    refine lv_iadd hx hb dX1_addBlock_86 ?_
    refine lv_topi (fun x21 ex21 => ?_)
    replace h := bn_t h ex21
    refine putF (D := G) (ci := 1) (v := .int x21) (ty := .int) (C := RX1) (T := TX1) (N := 7) hx hb hts inG_X1 tyX1 tyX1_ok nmX1 hown hK.1 hP hD hS 0 rfl rfl 6 (by decide) tf_X1_6 (hts _ wd_82724fa2) pd_I rfl rfl (Nat.le_of_ble_eq_true rfl) dX1_addBlock_87 (fun H locs hP hD hS => ?_)
    have hP : va_P G vwCl [(hp0, .inr (1, [.ref hp0_memory, .int p0_size, .ref hp0_stack, .int p0_depth, .ref hp0_starts, .ref hp0_lengths, .int x21])), (hp0_starts, .inl (E.1, 8, .inl m18)), (hp0_lengths, .inl (E.1, 8, .inl m20))] H := hP
    have hD : va_D A [(hp0, .inr (1, [.ref hp0_memory, .int p0_size, .ref hp0_stack, .int p0_depth, .ref hp0_starts, .ref hp0_lengths, .int x21])), (hp0_starts, .inl (E.1, 8, .inl m18)), (hp0_lengths, .inl (E.1, 8, .inl m20))] := hD
    refine lv_iconst (v := 1) hx hb dX1_addBlock_90 (by decide) ?_
    exact ret ((1 : Int32), m18, m20, x21) (Option.some.inj h) _ _ _ _ _ (fun _ => 0) rfl rfl hP hD hS dX1_addBlock_91
  · replace h := if_f h c1
    refine lv_iconst (v := 0) hx hb dX1_addBlock_9 (by decide) ?_
    exact ret ((0 : Int32), p0_starts, p0_lengths, p0_blocks) (Option.some.inj h) _ _ _ _ _ (fun _ => 0) rfl rfl hP hD hS dX1_addBlock_10
def B_X1_removeBlock_33 (x5 : Int32) (rec33 : (Nat → Int32) → (Nat → Int32) → Int32 → Option (Int32 × (Nat → Int32) × (Nat → Int32) × Int32)) (K75 : (Nat → Int32) → (Nat → Int32) → Int32 → Option (Int32 × (Nat → Int32) × (Nat → Int32) × Int32)) (z6 : (Nat → Int32)) (z7 : (Nat → Int32)) (z8 : Int32) : Option (Int32 × (Nat → Int32) × (Nat → Int32) × Int32) :=
  if x5 ≤ z8 then (
  K75 z6 z7 z8)
  else
  gin (z8 + (1 : Int32)) 8 <|
  bn (z6 (z8 + (1 : Int32)).toNatClampNeg) fun x11 =>
  gin z8 8 <|
  bn (upd z6 z8.toNatClampNeg x11) fun m13 =>
  gin (z8 + (1 : Int32)) 8 <|
  bn (z7 (z8 + (1 : Int32)).toNatClampNeg) fun x15 =>
  gin z8 8 <|
  bn (upd z7 z8.toNatClampNeg x15) fun m17 =>
  bn (z8 + 1) fun x18 =>
  rec33 m13 m17 x18
def L_X1_removeBlock_33 (x5 : Int32) (K75 : (Nat → Int32) → (Nat → Int32) → Int32 → Option (Int32 × (Nat → Int32) × (Nat → Int32) × Int32)) : Nat → (Nat → Int32) → (Nat → Int32) → Int32 → Option (Int32 × (Nat → Int32) × (Nat → Int32) × Int32)
    | 0, _, _, _ => none
    | n + 1, z6, z7, z8 => B_X1_removeBlock_33 x5 (fun z6 z7 z8 => L_X1_removeBlock_33 x5 K75 n z6 z7 z8) K75 z6 z7 z8
def f_X1_removeBlock (N : Nat) (i1 : Int32) (p0_blocks : Int32) (p0_lengths : (Nat → Int32)) (p0_starts : (Nat → Int32)) : Option (Int32 × (Nat → Int32) × (Nat → Int32) × Int32) :=
  if i1 < 0 then (
  some ((0 : Int32), p0_starts, p0_lengths, p0_blocks))
  else
  if i1 < p0_blocks then (
  gin i1 8 <|
  bn (p0_lengths i1.toNatClampNeg) fun x4 =>
  bn (p0_blocks - (1 : Int32)) fun x5 =>
  L_X1_removeBlock_33 x5 
  (fun z6 z7 z8 =>
  some (x4, z6, z7, x5)) N p0_starts p0_lengths i1)
  else
  some ((0 : Int32), p0_starts, p0_lengths, p0_blocks)
abbrev w_rm_X1_removeBlock : Room := { frames := 0, cells := 0, slots := 0, locals := 0 }
set_option maxHeartbeats 4000000 in
set_option maxRecDepth 100000 in
theorem c_X1_removeBlock (l : Launch) (G : va_G) (E : ClassId × ClassId × ClassId) (N : Nat) (hp0 : Nat) (hp0_memory : Nat) (p0_size : Int32) (hp0_stack : Nat) (p0_depth : Int32) (hp0_starts : Nat) (hp0_lengths : Nat) (p0_blocks : Int32) (p0_lengths : (Nat → Int32)) (p0_starts : (Nat → Int32)) (i1 : Int32) (r : Int32) (o0 : (Nat → Int32)) (o1 : (Nat → Int32)) (o2 : Int32) (h : f_X1_removeBlock N i1 p0_blocks p0_lengths p0_starts = some (r, o0, o1, o2)) : MI l G E yX1_removeBlock cX1_removeBlock 4 .int w_rm_X1_removeBlock [.ref hp0, .int i1] [(hp0, .inr (1, [.ref hp0_memory, .int p0_size, .ref hp0_stack, .int p0_depth, .ref hp0_starts, .ref hp0_lengths, .int p0_blocks])), (hp0_lengths, .inl (E.1, 8, .inl p0_lengths)), (hp0_starts, .inl (E.1, 8, .inl p0_starts))] r (fun a => [(hp0, .inr (1, [.ref hp0_memory, .int p0_size, .ref hp0_stack, .int p0_depth, .ref hp0_starts, .ref hp0_lengths, .int o2])), (hp0_lengths, .inl (E.1, 8, .inl o1)), (hp0_starts, .inl (E.1, 8, .inl o0))]) 0 0 := by
  refine MI_of (by decide) (Nat.le_of_ble_eq_true rfl) ?_
  intro p e s m args below meth c A Q hx hb hml hown hts hK hA hP hD hS ret ls hl
  replace ret : ∀ (R : (Int32 × (Nat → Int32) × (Nat → Int32) × Int32)), R = (r, o0, o1, o2) → ∀ (H : Heap) (locs : List Loc) (pc : Nat) (ls : Array Slot) (v : Int32) (a : Nat → Nat), v = R.1 → narrow .int (.int v) = .int v → va_P G vwCl [(hp0, .inr (1, [.ref hp0_memory, .int p0_size, .ref hp0_stack, .int p0_depth, .ref hp0_starts, .ref hp0_lengths, .int R.2.2.2])), (hp0_lengths, .inl (E.1, 8, .inl R.2.2.1)), (hp0_starts, .inl (E.1, 8, .inl R.2.1))] H → va_D A [(hp0, .inr (1, [.ref hp0_memory, .int p0_size, .ref hp0_stack, .int p0_depth, .ref hp0_starts, .ref hp0_lengths, .int R.2.2.2])), (hp0_lengths, .inl (E.1, 8, .inl R.2.2.1)), (hp0_starts, .inl (E.1, 8, .inl R.2.1))] → va_S A s.heap H locs → decode cX1_removeBlock pc = .ok (.ireturn, 1) → W p l e w_rm_X1_removeBlock s m args below meth c H locs 0 0 Q (F0 m pc ls [.int v]) := by
    intro R hR
    subst hR
    exact ret
  replace hl : lv_has ls 4 [(0, .ref hp0), (1, .int i1)] := hl
  unfold f_X1_removeBlock at h
  refine lv_iload_n hx hb dX1_removeBlock_0 rfl (lv_at hl 1 rfl) ?_
  refine lv_if_lt (tgt := 12) hx hb dX1_removeBlock_1 (by decide) (fun c1 => ?_) (fun c1 => ?_)
  · replace h := if_t h c1
    refine lv_iconst (v := 0) hx hb dX1_removeBlock_12 (by decide) ?_
    exact ret ((0 : Int32), p0_starts, p0_lengths, p0_blocks) (Option.some.inj h) _ _ _ _ _ (fun _ => 0) rfl rfl hP hD hS dX1_removeBlock_13
  · replace h := if_f h c1
    refine lv_iload_n hx hb dX1_removeBlock_4 rfl (lv_at hl 1 rfl) ?_
    refine lv_aload_n hx hb dX1_removeBlock_5 rfl (lv_at hl 0 rfl) ?_
    refine getF (D := G) (ci := 1) (v := .int p0_blocks) (C := RX1) (T := TX1) (N := 7) hx hb hts inG_X1 hown hK.1 hP 0 rfl rfl 6 (by decide) tf_X1_6 (hts _ wd_82724fa2) rfl dX1_removeBlock_6 ?_
    refine lv_icmp_lt (tgt := 14) hx hb dX1_removeBlock_9 (by decide) (fun c2 => ?_) (fun c2 => ?_)
    · replace h := if_t h c2
      refine lv_aload_n hx hb dX1_removeBlock_14 rfl (lv_at hl 0 rfl) ?_
      refine getF (D := G) (ci := 1) (v := .ref hp0_lengths) (C := RX1) (T := TX1) (N := 7) hx hb hts inG_X1 hown hK.1 hP 0 rfl rfl 5 (by decide) tf_X1_5 (hts _ wd_2f64a7ae) rfl dX1_removeBlock_15 ?_
      refine lv_iload_n hx hb dX1_removeBlock_18 rfl (lv_at hl 1 rfl) ?_
      obtain ⟨g3, h⟩ := gin_t h
      refine va_iald hx hb hK.1 hP 1 0 rfl rfl g3 dX1_removeBlock_19 ?_
      refine lv_topi (fun x4 ex4 => ?_)
      replace h := bn_t h ex4
      refine lv_istore_n (lv' := [(2, .int x4), (0, .ref hp0), (1, .int i1)]) hx hb dX1_removeBlock_20 rfl hl (by decide) rfl (fun ls hl => ?_)
      refine lv_aload_n hx hb dX1_removeBlock_21 rfl (lv_at hl 1 rfl) ?_
      refine lv_dup hx hb dX1_removeBlock_22 rfl ?_
      refine getF (D := G) (ci := 1) (v := .int p0_blocks) (C := RX1) (T := TX1) (N := 7) hx hb hts inG_X1 hown hK.1 hP 0 rfl rfl 6 (by decide) tf_X1_6 (hts _ wd_82724fa2) rfl dX1_removeBlock_23 ?_
      refine lv_iconst (v := 1) hx hb dX1_removeBlock_26 (by decide) ?_
      refine lv_isub hx hb dX1_removeBlock_27 ?_
      refine lv_topi (fun x5 ex5 => ?_)
      replace h := bn_t h ex5
      refine putF (D := G) (ci := 1) (v := .int x5) (ty := .int) (C := RX1) (T := TX1) (N := 7) hx hb hts inG_X1 tyX1 tyX1_ok nmX1 hown hK.1 hP hD hS 0 rfl rfl 6 (by decide) tf_X1_6 (hts _ wd_82724fa2) pd_I rfl rfl (Nat.le_of_ble_eq_true rfl) dX1_removeBlock_28 (fun H locs hP hD hS => ?_)
      have hP : va_P G vwCl [(hp0, .inr (1, [.ref hp0_memory, .int p0_size, .ref hp0_stack, .int p0_depth, .ref hp0_starts, .ref hp0_lengths, .int x5])), (hp0_lengths, .inl (E.1, 8, .inl p0_lengths)), (hp0_starts, .inl (E.1, 8, .inl p0_starts))] H := hP
      have hD : va_D A [(hp0, .inr (1, [.ref hp0_memory, .int p0_size, .ref hp0_stack, .int p0_depth, .ref hp0_starts, .ref hp0_lengths, .int x5])), (hp0_lengths, .inl (E.1, 8, .inl p0_lengths)), (hp0_starts, .inl (E.1, 8, .inl p0_starts))] := hD
      refine lv_iload_n hx hb dX1_removeBlock_31 rfl (lv_at hl 2 rfl) ?_
      refine lv_istore_n (lv' := [(3, .int i1), (2, .int x4), (0, .ref hp0), (1, .int i1)]) hx hb dX1_removeBlock_32 rfl hl (by decide) rfl (fun ls hl => ?_)
      have hL33 : ∀ (K75 : (Nat → Int32) → (Nat → Int32) → Int32 → Option (Int32 × (Nat → Int32) × (Nat → Int32) × Int32)), (∀ (z6 : (Nat → Int32)) (z7 : (Nat → Int32)) (z8 : Int32), K75 z6 z7 z8 = some (r, o0, o1, o2) → ∀ (H : Heap) (locs : List Loc) (ls : Array Slot), va_P G vwCl [(hp0, .inr (1, [.ref hp0_memory, .int p0_size, .ref hp0_stack, .int p0_depth, .ref hp0_starts, .ref hp0_lengths, .int x5])), (hp0_lengths, .inl (E.1, 8, .inl z7)), (hp0_starts, .inl (E.1, 8, .inl z6))] H → va_D A [(hp0, .inr (1, [.ref hp0_memory, .int p0_size, .ref hp0_stack, .int p0_depth, .ref hp0_starts, .ref hp0_lengths, .int x5])), (hp0_lengths, .inl (E.1, 8, .inl z7)), (hp0_starts, .inl (E.1, 8, .inl z6))] → va_S A s.heap H locs → lv_has ls 4 [(2, .int x4)] → W p l e w_rm_X1_removeBlock s m args below meth c H locs 0 0 Q (F0 m 75 ls [])) → ∀ (n : Nat) (z6 : (Nat → Int32)) (z7 : (Nat → Int32)) (z8 : Int32), L_X1_removeBlock_33 x5 K75 n z6 z7 z8 = some (r, o0, o1, o2) → ∀ (H : Heap) (locs : List Loc) (ls : Array Slot), va_P G vwCl [(hp0, .inr (1, [.ref hp0_memory, .int p0_size, .ref hp0_stack, .int p0_depth, .ref hp0_starts, .ref hp0_lengths, .int x5])), (hp0_lengths, .inl (E.1, 8, .inl z7)), (hp0_starts, .inl (E.1, 8, .inl z6))] H → va_D A [(hp0, .inr (1, [.ref hp0_memory, .int p0_size, .ref hp0_stack, .int p0_depth, .ref hp0_starts, .ref hp0_lengths, .int x5])), (hp0_lengths, .inl (E.1, 8, .inl z7)), (hp0_starts, .inl (E.1, 8, .inl z6))] → va_S A s.heap H locs → lv_has ls 4 [(0, .ref hp0), (2, .int x4), (3, .int z8)] → W p l e w_rm_X1_removeBlock s m args below meth c H locs 0 0 Q (F0 m 33 ls []) := by
        intro K75 hK75 n
        induction n with
        | zero =>
          intro z6 z7 z8 h
          replace h : (none : Option (Int32 × (Nat → Int32) × (Nat → Int32) × Int32)) = some (r, o0, o1, o2) := h
          cases h
        | succ n ih =>
          intro z6 z7 z8 h H locs ls hP hD hS hl
          replace h : B_X1_removeBlock_33 x5 (fun z6 z7 z8 => L_X1_removeBlock_33 x5 K75 n z6 z7 z8) K75 z6 z7 z8 = some (r, o0, o1, o2) := h
          obtain ⟨rec33, hrec33⟩ : ∃ f : (Nat → Int32) → (Nat → Int32) → Int32 → Option (Int32 × (Nat → Int32) × (Nat → Int32) × Int32), f = (fun z6 z7 z8 => L_X1_removeBlock_33 x5 K75 n z6 z7 z8) := ⟨_, rfl⟩
          rw [← hrec33] at h
          unfold B_X1_removeBlock_33 at h
          refine lv_iload_n hx hb dX1_removeBlock_33 rfl (lv_at hl 2 rfl) ?_
          refine lv_aload_n hx hb dX1_removeBlock_34 rfl (lv_at hl 0 rfl) ?_
          refine getF (D := G) (ci := 1) (v := .int x5) (C := RX1) (T := TX1) (N := 7) hx hb hts inG_X1 hown hK.1 hP 0 rfl rfl 6 (by decide) tf_X1_6 (hts _ wd_82724fa2) rfl dX1_removeBlock_35 ?_
          refine lv_icmp_ge (tgt := 75) hx hb dX1_removeBlock_38 (by decide) (fun c9 => ?_) (fun c9 => ?_)
          · replace h := if_t h c9
            exact hK75 z6 z7 z8 h _ _ _ hP hD hS (lv_sub hl [1] rfl)
          · replace h := if_f h c9
            refine lv_aload_n hx hb dX1_removeBlock_41 rfl (lv_at hl 0 rfl) ?_
            refine getF (D := G) (ci := 1) (v := .ref hp0_starts) (C := RX1) (T := TX1) (N := 7) hx hb hts inG_X1 hown hK.1 hP 0 rfl rfl 4 (by decide) tf_X1_4 (hts _ wd_30cca9c2) rfl dX1_removeBlock_42 ?_
            refine lv_iload_n hx hb dX1_removeBlock_45 rfl (lv_at hl 2 rfl) ?_
            refine lv_aload_n hx hb dX1_removeBlock_46 rfl (lv_at hl 0 rfl) ?_
            refine getF (D := G) (ci := 1) (v := .ref hp0_starts) (C := RX1) (T := TX1) (N := 7) hx hb hts inG_X1 hown hK.1 hP 0 rfl rfl 4 (by decide) tf_X1_4 (hts _ wd_30cca9c2) rfl dX1_removeBlock_47 ?_
            refine lv_iload_n hx hb dX1_removeBlock_50 rfl (lv_at hl 2 rfl) ?_
            refine lv_iconst (v := 1) hx hb dX1_removeBlock_51 (by decide) ?_
            refine lv_iadd hx hb dX1_removeBlock_52 ?_
            obtain ⟨g10, h⟩ := gin_t h
            refine va_iald hx hb hK.1 hP 2 0 rfl rfl g10 dX1_removeBlock_53 ?_
            refine lv_topi (fun x11 ex11 => ?_)
            replace h := bn_t h ex11
            obtain ⟨g12, h⟩ := gin_t h
            refine va_iast hx hb hK.1 hP hD hS 2 0 rfl rfl g12 dX1_removeBlock_54 (fun H locs hP hD hS => ?_)
            have hP : va_P G vwCl [(hp0, .inr (1, [.ref hp0_memory, .int p0_size, .ref hp0_stack, .int p0_depth, .ref hp0_starts, .ref hp0_lengths, .int x5])), (hp0_lengths, .inl (E.1, 8, .inl z7)), (hp0_starts, .inl (E.1, 8, .inl (upd z6 z8.toNatClampNeg x11)))] H := hP
            have hD : va_D A [(hp0, .inr (1, [.ref hp0_memory, .int p0_size, .ref hp0_stack, .int p0_depth, .ref hp0_starts, .ref hp0_lengths, .int x5])), (hp0_lengths, .inl (E.1, 8, .inl z7)), (hp0_starts, .inl (E.1, 8, .inl (upd z6 z8.toNatClampNeg x11)))] := hD
            obtain ⟨m13, em13⟩ : ∃ y : Nat → Int32, y = upd z6 z8.toNatClampNeg x11 := ⟨_, rfl⟩
            replace h := bn_t h em13
            rw [← em13] at hP hD
            refine lv_aload_n hx hb dX1_removeBlock_55 rfl (lv_at hl 0 rfl) ?_
            refine getF (D := G) (ci := 1) (v := .ref hp0_lengths) (C := RX1) (T := TX1) (N := 7) hx hb hts inG_X1 hown hK.1 hP 0 rfl rfl 5 (by decide) tf_X1_5 (hts _ wd_2f64a7ae) rfl dX1_removeBlock_56 ?_
            refine lv_iload_n hx hb dX1_removeBlock_59 rfl (lv_at hl 2 rfl) ?_
            refine lv_aload_n hx hb dX1_removeBlock_60 rfl (lv_at hl 0 rfl) ?_
            refine getF (D := G) (ci := 1) (v := .ref hp0_lengths) (C := RX1) (T := TX1) (N := 7) hx hb hts inG_X1 hown hK.1 hP 0 rfl rfl 5 (by decide) tf_X1_5 (hts _ wd_2f64a7ae) rfl dX1_removeBlock_61 ?_
            refine lv_iload_n hx hb dX1_removeBlock_64 rfl (lv_at hl 2 rfl) ?_
            refine lv_iconst (v := 1) hx hb dX1_removeBlock_65 (by decide) ?_
            refine lv_iadd hx hb dX1_removeBlock_66 ?_
            obtain ⟨g14, h⟩ := gin_t h
            refine va_iald hx hb hK.1 hP 1 0 rfl rfl g14 dX1_removeBlock_67 ?_
            refine lv_topi (fun x15 ex15 => ?_)
            replace h := bn_t h ex15
            obtain ⟨g16, h⟩ := gin_t h
            refine va_iast hx hb hK.1 hP hD hS 1 0 rfl rfl g16 dX1_removeBlock_68 (fun H locs hP hD hS => ?_)
            have hP : va_P G vwCl [(hp0, .inr (1, [.ref hp0_memory, .int p0_size, .ref hp0_stack, .int p0_depth, .ref hp0_starts, .ref hp0_lengths, .int x5])), (hp0_lengths, .inl (E.1, 8, .inl (upd z7 z8.toNatClampNeg x15))), (hp0_starts, .inl (E.1, 8, .inl m13))] H := hP
            have hD : va_D A [(hp0, .inr (1, [.ref hp0_memory, .int p0_size, .ref hp0_stack, .int p0_depth, .ref hp0_starts, .ref hp0_lengths, .int x5])), (hp0_lengths, .inl (E.1, 8, .inl (upd z7 z8.toNatClampNeg x15))), (hp0_starts, .inl (E.1, 8, .inl m13))] := hD
            obtain ⟨m17, em17⟩ : ∃ y : Nat → Int32, y = upd z7 z8.toNatClampNeg x15 := ⟨_, rfl⟩
            replace h := bn_t h em17
            rw [← em17] at hP hD
            obtain ⟨x18, ex18⟩ : ∃ y : Int32, y = z8 + 1 := ⟨_, rfl⟩
            replace h := bn_t h ex18
            refine lv_iinc (v := x18) (lv' := [(3, .int x18), (0, .ref hp0), (2, .int x4)]) hx hb dX1_removeBlock_69 hl (k := 2) rfl (by rw [ex18]; rfl) (by decide) rfl (fun ls hl => ?_)
            refine lv_goto (tgt := 33) hx hb dX1_removeBlock_72 (by decide) ?_
            exact ih m13 m17 x18 (by rw [hrec33] at h; exact h) _ _ _ hP hD hS (lv_sub hl [1, 2, 0] rfl)
      refine hL33 _ (fun z6 z7 z8 h H locs ls hP hD hS hl => ?_) N p0_starts p0_lengths i1 h _ _ _ hP hD hS (lv_sub hl [2, 1, 0] rfl)
      try dsimp only at h
      refine lv_iload_n hx hb dX1_removeBlock_75 rfl (lv_at hl 0 rfl) ?_
      exact ret (x4, z6, z7, x5) (Option.some.inj h) _ _ _ _ _ (fun _ => 0) rfl rfl hP hD hS dX1_removeBlock_76
    · replace h := if_f h c2
      refine lv_iconst (v := 0) hx hb dX1_removeBlock_12 (by decide) ?_
      exact ret ((0 : Int32), p0_starts, p0_lengths, p0_blocks) (Option.some.inj h) _ _ _ _ _ (fun _ => 0) rfl rfl hP hD hS dX1_removeBlock_13
def B_X1_number_7 (p0_size : Int32) (p0_memory : (Nat → Int32)) (rec7 : Int32 → Int32 → Option (Int32)) (K33 : Int32 → Int32 → Option (Int32)) (z1 : Int32) (z2 : Int32) : Option (Int32) :=
  if p0_size ≤ z2 then (
  K33 z1 z2)
  else
  gin z2 512 <|
  bn (((31 : Int32) * z1) + (p0_memory z2.toNatClampNeg)) fun x5 =>
  bn (z2 + 1) fun x6 =>
  rec7 x5 x6
def L_X1_number_7 (p0_size : Int32) (p0_memory : (Nat → Int32)) (K33 : Int32 → Int32 → Option (Int32)) : Nat → Int32 → Int32 → Option (Int32)
    | 0, _, _ => none
    | n + 1, z1, z2 => B_X1_number_7 p0_size p0_memory (fun z1 z2 => L_X1_number_7 p0_size p0_memory K33 n z1 z2) K33 z1 z2
def B_X1_number_35 (p0_depth : Int32) (p0_stack : (Nat → Int32)) (rec35 : Int32 → Int32 → Option (Int32)) (K61 : Int32 → Int32 → Option (Int32)) (z7 : Int32) (z8 : Int32) : Option (Int32) :=
  if p0_depth ≤ z8 then (
  K61 z7 z8)
  else
  gin z8 40 <|
  bn (((31 : Int32) * z7) + (p0_stack z8.toNatClampNeg)) fun x11 =>
  bn (z8 + 1) fun x12 =>
  rec35 x11 x12
def L_X1_number_35 (p0_depth : Int32) (p0_stack : (Nat → Int32)) (K61 : Int32 → Int32 → Option (Int32)) : Nat → Int32 → Int32 → Option (Int32)
    | 0, _, _ => none
    | n + 1, z7, z8 => B_X1_number_35 p0_depth p0_stack (fun z7 z8 => L_X1_number_35 p0_depth p0_stack K61 n z7 z8) K61 z7 z8
def B_X1_number_63 (p0_blocks : Int32) (p0_starts : (Nat → Int32)) (p0_lengths : (Nat → Int32)) (rec63 : Int32 → Int32 → Option (Int32)) (K101 : Int32 → Int32 → Option (Int32)) (z13 : Int32) (z14 : Int32) : Option (Int32) :=
  if p0_blocks ≤ z14 then (
  K101 z13 z14)
  else
  gin z14 8 <|
  bn (((31 : Int32) * z13) + (p0_starts z14.toNatClampNeg)) fun x17 =>
  gin z14 8 <|
  bn (((31 : Int32) * x17) + (p0_lengths z14.toNatClampNeg)) fun x19 =>
  bn (z14 + 1) fun x20 =>
  rec63 x19 x20
def L_X1_number_63 (p0_blocks : Int32) (p0_starts : (Nat → Int32)) (p0_lengths : (Nat → Int32)) (K101 : Int32 → Int32 → Option (Int32)) : Nat → Int32 → Int32 → Option (Int32)
    | 0, _, _ => none
    | n + 1, z13, z14 => B_X1_number_63 p0_blocks p0_starts p0_lengths (fun z13 z14 => L_X1_number_63 p0_blocks p0_starts p0_lengths K101 n z13 z14) K101 z13 z14
def f_X1_number (N : Nat) (p0_size : Int32) (p0_depth : Int32) (p0_blocks : Int32) (p0_memory : (Nat → Int32)) (p0_stack : (Nat → Int32)) (p0_starts : (Nat → Int32)) (p0_lengths : (Nat → Int32)) : Option (Int32) :=
  L_X1_number_7 p0_size p0_memory 
  (fun z1 z2 =>
  L_X1_number_35 p0_depth p0_stack 
  (fun z7 z8 =>
  L_X1_number_63 p0_blocks p0_starts p0_lengths 
  (fun z13 z14 =>
  some (z13)) N z7 (0 : Int32)) N z1 (0 : Int32)) N p0_size (0 : Int32)
abbrev w_rm_X1_number : Room := { frames := 0, cells := 0, slots := 0, locals := 0 }
set_option maxHeartbeats 4000000 in
set_option maxRecDepth 100000 in
theorem c_X1_number (l : Launch) (G : va_G) (E : ClassId × ClassId × ClassId) (N : Nat) (hp0 : Nat) (hp0_memory : Nat) (p0_size : Int32) (hp0_stack : Nat) (p0_depth : Int32) (hp0_starts : Nat) (hp0_lengths : Nat) (p0_blocks : Int32) (p0_memory : (Nat → Int32)) (p0_stack : (Nat → Int32)) (p0_starts : (Nat → Int32)) (p0_lengths : (Nat → Int32)) (r : Int32) (h : f_X1_number N p0_size p0_depth p0_blocks p0_memory p0_stack p0_starts p0_lengths = some (r)) : MI l G E yX1_number cX1_number 3 .int w_rm_X1_number [.ref hp0] [(hp0, .inr (1, [.ref hp0_memory, .int p0_size, .ref hp0_stack, .int p0_depth, .ref hp0_starts, .ref hp0_lengths, .int p0_blocks])), (hp0_memory, .inl (E.1, 512, .inl p0_memory)), (hp0_stack, .inl (E.1, 40, .inl p0_stack)), (hp0_starts, .inl (E.1, 8, .inl p0_starts)), (hp0_lengths, .inl (E.1, 8, .inl p0_lengths))] r (fun a => [(hp0, .inr (1, [.ref hp0_memory, .int p0_size, .ref hp0_stack, .int p0_depth, .ref hp0_starts, .ref hp0_lengths, .int p0_blocks])), (hp0_memory, .inl (E.1, 512, .inl p0_memory)), (hp0_stack, .inl (E.1, 40, .inl p0_stack)), (hp0_starts, .inl (E.1, 8, .inl p0_starts)), (hp0_lengths, .inl (E.1, 8, .inl p0_lengths))]) 0 0 := by
  refine MI_of (by decide) (Nat.le_of_ble_eq_true rfl) ?_
  intro p e s m args below meth c A Q hx hb hml hown hts hK hA hP hD hS ret ls hl
  replace ret : ∀ (R : (Int32)), R = (r) → ∀ (H : Heap) (locs : List Loc) (pc : Nat) (ls : Array Slot) (v : Int32) (a : Nat → Nat), v = R → narrow .int (.int v) = .int v → va_P G vwCl [(hp0, .inr (1, [.ref hp0_memory, .int p0_size, .ref hp0_stack, .int p0_depth, .ref hp0_starts, .ref hp0_lengths, .int p0_blocks])), (hp0_memory, .inl (E.1, 512, .inl p0_memory)), (hp0_stack, .inl (E.1, 40, .inl p0_stack)), (hp0_starts, .inl (E.1, 8, .inl p0_starts)), (hp0_lengths, .inl (E.1, 8, .inl p0_lengths))] H → va_D A [(hp0, .inr (1, [.ref hp0_memory, .int p0_size, .ref hp0_stack, .int p0_depth, .ref hp0_starts, .ref hp0_lengths, .int p0_blocks])), (hp0_memory, .inl (E.1, 512, .inl p0_memory)), (hp0_stack, .inl (E.1, 40, .inl p0_stack)), (hp0_starts, .inl (E.1, 8, .inl p0_starts)), (hp0_lengths, .inl (E.1, 8, .inl p0_lengths))] → va_S A s.heap H locs → decode cX1_number pc = .ok (.ireturn, 1) → W p l e w_rm_X1_number s m args below meth c H locs 0 0 Q (F0 m pc ls [.int v]) := by
    intro R hR
    subst hR
    exact ret
  replace hl : lv_has ls 3 [(0, .ref hp0)] := hl
  unfold f_X1_number at h
  refine lv_aload_n hx hb dX1_number_0 rfl (lv_at hl 0 rfl) ?_
  refine getF (D := G) (ci := 1) (v := .int p0_size) (C := RX1) (T := TX1) (N := 7) hx hb hts inG_X1 hown hK.1 hP 0 rfl rfl 1 (by decide) tf_X1_1 (hts _ wd_41c784e1) rfl dX1_number_1 ?_
  refine lv_istore_n (lv' := [(1, .int p0_size), (0, .ref hp0)]) hx hb dX1_number_4 rfl hl (by decide) rfl (fun ls hl => ?_)
  refine lv_iconst (v := 0) hx hb dX1_number_5 (by decide) ?_
  refine lv_istore_n (lv' := [(2, .int (0 : Int32)), (1, .int p0_size), (0, .ref hp0)]) hx hb dX1_number_6 rfl hl (by decide) rfl (fun ls hl => ?_)
  have hL7 : ∀ (K33 : Int32 → Int32 → Option (Int32)), (∀ (z1 : Int32) (z2 : Int32), K33 z1 z2 = some (r) → ∀ (H : Heap) (locs : List Loc) (ls : Array Slot), va_P G vwCl [(hp0, .inr (1, [.ref hp0_memory, .int p0_size, .ref hp0_stack, .int p0_depth, .ref hp0_starts, .ref hp0_lengths, .int p0_blocks])), (hp0_memory, .inl (E.1, 512, .inl p0_memory)), (hp0_stack, .inl (E.1, 40, .inl p0_stack)), (hp0_starts, .inl (E.1, 8, .inl p0_starts)), (hp0_lengths, .inl (E.1, 8, .inl p0_lengths))] H → va_D A [(hp0, .inr (1, [.ref hp0_memory, .int p0_size, .ref hp0_stack, .int p0_depth, .ref hp0_starts, .ref hp0_lengths, .int p0_blocks])), (hp0_memory, .inl (E.1, 512, .inl p0_memory)), (hp0_stack, .inl (E.1, 40, .inl p0_stack)), (hp0_starts, .inl (E.1, 8, .inl p0_starts)), (hp0_lengths, .inl (E.1, 8, .inl p0_lengths))] → va_S A s.heap H locs → lv_has ls 3 [(0, .ref hp0), (1, .int z1)] → W p l e w_rm_X1_number s m args below meth c H locs 0 0 Q (F0 m 33 ls [])) → ∀ (n : Nat) (z1 : Int32) (z2 : Int32), L_X1_number_7 p0_size p0_memory K33 n z1 z2 = some (r) → ∀ (H : Heap) (locs : List Loc) (ls : Array Slot), va_P G vwCl [(hp0, .inr (1, [.ref hp0_memory, .int p0_size, .ref hp0_stack, .int p0_depth, .ref hp0_starts, .ref hp0_lengths, .int p0_blocks])), (hp0_memory, .inl (E.1, 512, .inl p0_memory)), (hp0_stack, .inl (E.1, 40, .inl p0_stack)), (hp0_starts, .inl (E.1, 8, .inl p0_starts)), (hp0_lengths, .inl (E.1, 8, .inl p0_lengths))] H → va_D A [(hp0, .inr (1, [.ref hp0_memory, .int p0_size, .ref hp0_stack, .int p0_depth, .ref hp0_starts, .ref hp0_lengths, .int p0_blocks])), (hp0_memory, .inl (E.1, 512, .inl p0_memory)), (hp0_stack, .inl (E.1, 40, .inl p0_stack)), (hp0_starts, .inl (E.1, 8, .inl p0_starts)), (hp0_lengths, .inl (E.1, 8, .inl p0_lengths))] → va_S A s.heap H locs → lv_has ls 3 [(0, .ref hp0), (1, .int z1), (2, .int z2)] → W p l e w_rm_X1_number s m args below meth c H locs 0 0 Q (F0 m 7 ls []) := by
    intro K33 hK33 n
    induction n with
    | zero =>
      intro z1 z2 h
      replace h : (none : Option (Int32)) = some (r) := h
      cases h
    | succ n ih =>
      intro z1 z2 h H locs ls hP hD hS hl
      replace h : B_X1_number_7 p0_size p0_memory (fun z1 z2 => L_X1_number_7 p0_size p0_memory K33 n z1 z2) K33 z1 z2 = some (r) := h
      obtain ⟨rec7, hrec7⟩ : ∃ f : Int32 → Int32 → Option (Int32), f = (fun z1 z2 => L_X1_number_7 p0_size p0_memory K33 n z1 z2) := ⟨_, rfl⟩
      rw [← hrec7] at h
      unfold B_X1_number_7 at h
      refine lv_iload_n hx hb dX1_number_7 rfl (lv_at hl 2 rfl) ?_
      refine lv_aload_n hx hb dX1_number_8 rfl (lv_at hl 0 rfl) ?_
      refine getF (D := G) (ci := 1) (v := .int p0_size) (C := RX1) (T := TX1) (N := 7) hx hb hts inG_X1 hown hK.1 hP 0 rfl rfl 1 (by decide) tf_X1_1 (hts _ wd_41c784e1) rfl dX1_number_9 ?_
      refine lv_icmp_ge (tgt := 33) hx hb dX1_number_12 (by decide) (fun c3 => ?_) (fun c3 => ?_)
      · replace h := if_t h c3
        exact hK33 z1 z2 h _ _ _ hP hD hS (lv_sub hl [0, 1] rfl)
      · replace h := if_f h c3
        refine lv_bipush (v := 31) hx hb dX1_number_15 (by decide) ?_
        refine lv_iload_n hx hb dX1_number_17 rfl (lv_at hl 1 rfl) ?_
        refine lv_imul hx hb dX1_number_18 ?_
        refine lv_aload_n hx hb dX1_number_19 rfl (lv_at hl 0 rfl) ?_
        refine getF (D := G) (ci := 1) (v := .ref hp0_memory) (C := RX1) (T := TX1) (N := 7) hx hb hts inG_X1 hown hK.1 hP 0 rfl rfl 0 (by decide) tf_X1_0 (hts _ wd_78089881) rfl dX1_number_20 ?_
        refine lv_iload_n hx hb dX1_number_23 rfl (lv_at hl 2 rfl) ?_
        obtain ⟨g4, h⟩ := gin_t h
        refine va_iald hx hb hK.1 hP 1 0 rfl rfl g4 dX1_number_24 ?_
        refine lv_iadd hx hb dX1_number_25 ?_
        refine lv_topi (fun x5 ex5 => ?_)
        replace h := bn_t h ex5
        refine lv_istore_n (lv' := [(1, .int x5), (0, .ref hp0), (2, .int z2)]) hx hb dX1_number_26 rfl hl (by decide) rfl (fun ls hl => ?_)
        obtain ⟨x6, ex6⟩ : ∃ y : Int32, y = z2 + 1 := ⟨_, rfl⟩
        replace h := bn_t h ex6
        refine lv_iinc (v := x6) (lv' := [(2, .int x6), (1, .int x5), (0, .ref hp0)]) hx hb dX1_number_27 hl (k := 2) rfl (by rw [ex6]; rfl) (by decide) rfl (fun ls hl => ?_)
        refine lv_goto (tgt := 7) hx hb dX1_number_30 (by decide) ?_
        exact ih x5 x6 (by rw [hrec7] at h; exact h) _ _ _ hP hD hS (lv_sub hl [2, 1, 0] rfl)
  refine hL7 _ (fun z1 z2 h H locs ls hP hD hS hl => ?_) N p0_size (0 : Int32) h _ _ _ hP hD hS (lv_sub hl [2, 1, 0] rfl)
  try dsimp only at h
  refine lv_iconst (v := 0) hx hb dX1_number_33 (by decide) ?_
  refine lv_istore_n (lv' := [(2, .int (0 : Int32)), (0, .ref hp0), (1, .int z1)]) hx hb dX1_number_34 rfl hl (by decide) rfl (fun ls hl => ?_)
  have hL35 : ∀ (K61 : Int32 → Int32 → Option (Int32)), (∀ (z7 : Int32) (z8 : Int32), K61 z7 z8 = some (r) → ∀ (H : Heap) (locs : List Loc) (ls : Array Slot), va_P G vwCl [(hp0, .inr (1, [.ref hp0_memory, .int p0_size, .ref hp0_stack, .int p0_depth, .ref hp0_starts, .ref hp0_lengths, .int p0_blocks])), (hp0_memory, .inl (E.1, 512, .inl p0_memory)), (hp0_stack, .inl (E.1, 40, .inl p0_stack)), (hp0_starts, .inl (E.1, 8, .inl p0_starts)), (hp0_lengths, .inl (E.1, 8, .inl p0_lengths))] H → va_D A [(hp0, .inr (1, [.ref hp0_memory, .int p0_size, .ref hp0_stack, .int p0_depth, .ref hp0_starts, .ref hp0_lengths, .int p0_blocks])), (hp0_memory, .inl (E.1, 512, .inl p0_memory)), (hp0_stack, .inl (E.1, 40, .inl p0_stack)), (hp0_starts, .inl (E.1, 8, .inl p0_starts)), (hp0_lengths, .inl (E.1, 8, .inl p0_lengths))] → va_S A s.heap H locs → lv_has ls 3 [(0, .ref hp0), (1, .int z7)] → W p l e w_rm_X1_number s m args below meth c H locs 0 0 Q (F0 m 61 ls [])) → ∀ (n : Nat) (z7 : Int32) (z8 : Int32), L_X1_number_35 p0_depth p0_stack K61 n z7 z8 = some (r) → ∀ (H : Heap) (locs : List Loc) (ls : Array Slot), va_P G vwCl [(hp0, .inr (1, [.ref hp0_memory, .int p0_size, .ref hp0_stack, .int p0_depth, .ref hp0_starts, .ref hp0_lengths, .int p0_blocks])), (hp0_memory, .inl (E.1, 512, .inl p0_memory)), (hp0_stack, .inl (E.1, 40, .inl p0_stack)), (hp0_starts, .inl (E.1, 8, .inl p0_starts)), (hp0_lengths, .inl (E.1, 8, .inl p0_lengths))] H → va_D A [(hp0, .inr (1, [.ref hp0_memory, .int p0_size, .ref hp0_stack, .int p0_depth, .ref hp0_starts, .ref hp0_lengths, .int p0_blocks])), (hp0_memory, .inl (E.1, 512, .inl p0_memory)), (hp0_stack, .inl (E.1, 40, .inl p0_stack)), (hp0_starts, .inl (E.1, 8, .inl p0_starts)), (hp0_lengths, .inl (E.1, 8, .inl p0_lengths))] → va_S A s.heap H locs → lv_has ls 3 [(0, .ref hp0), (1, .int z7), (2, .int z8)] → W p l e w_rm_X1_number s m args below meth c H locs 0 0 Q (F0 m 35 ls []) := by
    intro K61 hK61 n
    induction n with
    | zero =>
      intro z7 z8 h
      replace h : (none : Option (Int32)) = some (r) := h
      cases h
    | succ n ih =>
      intro z7 z8 h H locs ls hP hD hS hl
      replace h : B_X1_number_35 p0_depth p0_stack (fun z7 z8 => L_X1_number_35 p0_depth p0_stack K61 n z7 z8) K61 z7 z8 = some (r) := h
      obtain ⟨rec35, hrec35⟩ : ∃ f : Int32 → Int32 → Option (Int32), f = (fun z7 z8 => L_X1_number_35 p0_depth p0_stack K61 n z7 z8) := ⟨_, rfl⟩
      rw [← hrec35] at h
      unfold B_X1_number_35 at h
      refine lv_iload_n hx hb dX1_number_35 rfl (lv_at hl 2 rfl) ?_
      refine lv_aload_n hx hb dX1_number_36 rfl (lv_at hl 0 rfl) ?_
      refine getF (D := G) (ci := 1) (v := .int p0_depth) (C := RX1) (T := TX1) (N := 7) hx hb hts inG_X1 hown hK.1 hP 0 rfl rfl 3 (by decide) tf_X1_3 (hts _ wd_20db0b98) rfl dX1_number_37 ?_
      refine lv_icmp_ge (tgt := 61) hx hb dX1_number_40 (by decide) (fun c9 => ?_) (fun c9 => ?_)
      · replace h := if_t h c9
        exact hK61 z7 z8 h _ _ _ hP hD hS (lv_sub hl [0, 1] rfl)
      · replace h := if_f h c9
        refine lv_bipush (v := 31) hx hb dX1_number_43 (by decide) ?_
        refine lv_iload_n hx hb dX1_number_45 rfl (lv_at hl 1 rfl) ?_
        refine lv_imul hx hb dX1_number_46 ?_
        refine lv_aload_n hx hb dX1_number_47 rfl (lv_at hl 0 rfl) ?_
        refine getF (D := G) (ci := 1) (v := .ref hp0_stack) (C := RX1) (T := TX1) (N := 7) hx hb hts inG_X1 hown hK.1 hP 0 rfl rfl 2 (by decide) tf_X1_2 (hts _ wd_4041e156) rfl dX1_number_48 ?_
        refine lv_iload_n hx hb dX1_number_51 rfl (lv_at hl 2 rfl) ?_
        obtain ⟨g10, h⟩ := gin_t h
        refine va_iald hx hb hK.1 hP 2 0 rfl rfl g10 dX1_number_52 ?_
        refine lv_iadd hx hb dX1_number_53 ?_
        refine lv_topi (fun x11 ex11 => ?_)
        replace h := bn_t h ex11
        refine lv_istore_n (lv' := [(1, .int x11), (0, .ref hp0), (2, .int z8)]) hx hb dX1_number_54 rfl hl (by decide) rfl (fun ls hl => ?_)
        obtain ⟨x12, ex12⟩ : ∃ y : Int32, y = z8 + 1 := ⟨_, rfl⟩
        replace h := bn_t h ex12
        refine lv_iinc (v := x12) (lv' := [(2, .int x12), (1, .int x11), (0, .ref hp0)]) hx hb dX1_number_55 hl (k := 2) rfl (by rw [ex12]; rfl) (by decide) rfl (fun ls hl => ?_)
        refine lv_goto (tgt := 35) hx hb dX1_number_58 (by decide) ?_
        exact ih x11 x12 (by rw [hrec35] at h; exact h) _ _ _ hP hD hS (lv_sub hl [2, 1, 0] rfl)
  refine hL35 _ (fun z7 z8 h H locs ls hP hD hS hl => ?_) N z1 (0 : Int32) h _ _ _ hP hD hS (lv_sub hl [1, 2, 0] rfl)
  try dsimp only at h
  refine lv_iconst (v := 0) hx hb dX1_number_61 (by decide) ?_
  refine lv_istore_n (lv' := [(2, .int (0 : Int32)), (0, .ref hp0), (1, .int z7)]) hx hb dX1_number_62 rfl hl (by decide) rfl (fun ls hl => ?_)
  have hL63 : ∀ (K101 : Int32 → Int32 → Option (Int32)), (∀ (z13 : Int32) (z14 : Int32), K101 z13 z14 = some (r) → ∀ (H : Heap) (locs : List Loc) (ls : Array Slot), va_P G vwCl [(hp0, .inr (1, [.ref hp0_memory, .int p0_size, .ref hp0_stack, .int p0_depth, .ref hp0_starts, .ref hp0_lengths, .int p0_blocks])), (hp0_memory, .inl (E.1, 512, .inl p0_memory)), (hp0_stack, .inl (E.1, 40, .inl p0_stack)), (hp0_starts, .inl (E.1, 8, .inl p0_starts)), (hp0_lengths, .inl (E.1, 8, .inl p0_lengths))] H → va_D A [(hp0, .inr (1, [.ref hp0_memory, .int p0_size, .ref hp0_stack, .int p0_depth, .ref hp0_starts, .ref hp0_lengths, .int p0_blocks])), (hp0_memory, .inl (E.1, 512, .inl p0_memory)), (hp0_stack, .inl (E.1, 40, .inl p0_stack)), (hp0_starts, .inl (E.1, 8, .inl p0_starts)), (hp0_lengths, .inl (E.1, 8, .inl p0_lengths))] → va_S A s.heap H locs → lv_has ls 3 [(1, .int z13)] → W p l e w_rm_X1_number s m args below meth c H locs 0 0 Q (F0 m 101 ls [])) → ∀ (n : Nat) (z13 : Int32) (z14 : Int32), L_X1_number_63 p0_blocks p0_starts p0_lengths K101 n z13 z14 = some (r) → ∀ (H : Heap) (locs : List Loc) (ls : Array Slot), va_P G vwCl [(hp0, .inr (1, [.ref hp0_memory, .int p0_size, .ref hp0_stack, .int p0_depth, .ref hp0_starts, .ref hp0_lengths, .int p0_blocks])), (hp0_memory, .inl (E.1, 512, .inl p0_memory)), (hp0_stack, .inl (E.1, 40, .inl p0_stack)), (hp0_starts, .inl (E.1, 8, .inl p0_starts)), (hp0_lengths, .inl (E.1, 8, .inl p0_lengths))] H → va_D A [(hp0, .inr (1, [.ref hp0_memory, .int p0_size, .ref hp0_stack, .int p0_depth, .ref hp0_starts, .ref hp0_lengths, .int p0_blocks])), (hp0_memory, .inl (E.1, 512, .inl p0_memory)), (hp0_stack, .inl (E.1, 40, .inl p0_stack)), (hp0_starts, .inl (E.1, 8, .inl p0_starts)), (hp0_lengths, .inl (E.1, 8, .inl p0_lengths))] → va_S A s.heap H locs → lv_has ls 3 [(0, .ref hp0), (1, .int z13), (2, .int z14)] → W p l e w_rm_X1_number s m args below meth c H locs 0 0 Q (F0 m 63 ls []) := by
    intro K101 hK101 n
    induction n with
    | zero =>
      intro z13 z14 h
      replace h : (none : Option (Int32)) = some (r) := h
      cases h
    | succ n ih =>
      intro z13 z14 h H locs ls hP hD hS hl
      replace h : B_X1_number_63 p0_blocks p0_starts p0_lengths (fun z13 z14 => L_X1_number_63 p0_blocks p0_starts p0_lengths K101 n z13 z14) K101 z13 z14 = some (r) := h
      obtain ⟨rec63, hrec63⟩ : ∃ f : Int32 → Int32 → Option (Int32), f = (fun z13 z14 => L_X1_number_63 p0_blocks p0_starts p0_lengths K101 n z13 z14) := ⟨_, rfl⟩
      rw [← hrec63] at h
      unfold B_X1_number_63 at h
      refine lv_iload_n hx hb dX1_number_63 rfl (lv_at hl 2 rfl) ?_
      refine lv_aload_n hx hb dX1_number_64 rfl (lv_at hl 0 rfl) ?_
      refine getF (D := G) (ci := 1) (v := .int p0_blocks) (C := RX1) (T := TX1) (N := 7) hx hb hts inG_X1 hown hK.1 hP 0 rfl rfl 6 (by decide) tf_X1_6 (hts _ wd_82724fa2) rfl dX1_number_65 ?_
      refine lv_icmp_ge (tgt := 101) hx hb dX1_number_68 (by decide) (fun c15 => ?_) (fun c15 => ?_)
      · replace h := if_t h c15
        exact hK101 z13 z14 h _ _ _ hP hD hS (lv_sub hl [1] rfl)
      · replace h := if_f h c15
        refine lv_bipush (v := 31) hx hb dX1_number_71 (by decide) ?_
        refine lv_iload_n hx hb dX1_number_73 rfl (lv_at hl 1 rfl) ?_
        refine lv_imul hx hb dX1_number_74 ?_
        refine lv_aload_n hx hb dX1_number_75 rfl (lv_at hl 0 rfl) ?_
        refine getF (D := G) (ci := 1) (v := .ref hp0_starts) (C := RX1) (T := TX1) (N := 7) hx hb hts inG_X1 hown hK.1 hP 0 rfl rfl 4 (by decide) tf_X1_4 (hts _ wd_30cca9c2) rfl dX1_number_76 ?_
        refine lv_iload_n hx hb dX1_number_79 rfl (lv_at hl 2 rfl) ?_
        obtain ⟨g16, h⟩ := gin_t h
        refine va_iald hx hb hK.1 hP 3 0 rfl rfl g16 dX1_number_80 ?_
        refine lv_iadd hx hb dX1_number_81 ?_
        refine lv_topi (fun x17 ex17 => ?_)
        replace h := bn_t h ex17
        refine lv_istore_n (lv' := [(1, .int x17), (0, .ref hp0), (2, .int z14)]) hx hb dX1_number_82 rfl hl (by decide) rfl (fun ls hl => ?_)
        refine lv_bipush (v := 31) hx hb dX1_number_83 (by decide) ?_
        refine lv_iload_n hx hb dX1_number_85 rfl (lv_at hl 0 rfl) ?_
        refine lv_imul hx hb dX1_number_86 ?_
        refine lv_aload_n hx hb dX1_number_87 rfl (lv_at hl 1 rfl) ?_
        refine getF (D := G) (ci := 1) (v := .ref hp0_lengths) (C := RX1) (T := TX1) (N := 7) hx hb hts inG_X1 hown hK.1 hP 0 rfl rfl 5 (by decide) tf_X1_5 (hts _ wd_2f64a7ae) rfl dX1_number_88 ?_
        refine lv_iload_n hx hb dX1_number_91 rfl (lv_at hl 2 rfl) ?_
        obtain ⟨g18, h⟩ := gin_t h
        refine va_iald hx hb hK.1 hP 4 0 rfl rfl g18 dX1_number_92 ?_
        refine lv_iadd hx hb dX1_number_93 ?_
        refine lv_topi (fun x19 ex19 => ?_)
        replace h := bn_t h ex19
        refine lv_istore_n (lv' := [(1, .int x19), (0, .ref hp0), (2, .int z14)]) hx hb dX1_number_94 rfl hl (by decide) rfl (fun ls hl => ?_)
        obtain ⟨x20, ex20⟩ : ∃ y : Int32, y = z14 + 1 := ⟨_, rfl⟩
        replace h := bn_t h ex20
        refine lv_iinc (v := x20) (lv' := [(2, .int x20), (1, .int x19), (0, .ref hp0)]) hx hb dX1_number_95 hl (k := 2) rfl (by rw [ex20]; rfl) (by decide) rfl (fun ls hl => ?_)
        refine lv_goto (tgt := 63) hx hb dX1_number_98 (by decide) ?_
        exact ih x19 x20 (by rw [hrec63] at h; exact h) _ _ _ hP hD hS (lv_sub hl [2, 1, 0] rfl)
  refine hL63 _ (fun z13 z14 h H locs ls hP hD hS hl => ?_) N z7 (0 : Int32) h _ _ _ hP hD hS (lv_sub hl [1, 2, 0] rfl)
  try dsimp only at h
  refine lv_iload_n hx hb dX1_number_101 rfl (lv_at hl 0 rfl) ?_
  exact ret (z13) (Option.some.inj h) _ _ _ _ _ (fun _ => 0) rfl rfl hP hD hS dX1_number_102
