def f_X2_init  : Option Unit :=
  some ()
abbrev w_rm_X2_init : Room := { frames := 1, cells := 3, slots := 248, locals := 13 }
set_option maxHeartbeats 4000000 in
set_option maxRecDepth 100000 in
theorem c_X2_init (l : Launch) (G : va_G) (E : ClassId × ClassId × ClassId) (hp0 : Nat)  (h : f_X2_init = some ()) : MV l G E yX2_init cX2_init 1 w_rm_X2_init [.ref hp0] [(hp0, .inr (2, [.int (0 : Int32), .null, .null, .null]))] (fun a => [(hp0, .inr (2, [.int (0 : Int32), .ref (a 0), .ref (a 1), .ref (a 2)])), ((a 0), .inl (E.1, 4, .inl (fun _ => 0))), ((a 1), .inl (E.1, 4, .inl (fun _ => 0))), ((a 2), .inl (E.1, 240, .inl (fun _ => 0)))]) 3 248 := by
  refine MV_of (by decide) (Nat.le_of_ble_eq_true rfl) ?_
  intro p e s m args below meth c A Q hx hb hml hown hin hts hK hA hP hD hS ret ls hl
  replace hin := hin rfl
  replace hl : lv_has ls 1 [(0, .ref hp0)] := hl
  unfold f_X2_init at h
  refine lv_aload_n hx hb dX2_init_0 rfl (lv_at hl 0 rfl) ?_
  refine W.objInit hx hb hown (hts _ wd_79253b89) (hts _ wd_449f795d) (hts _ wd_679af842) rfl (by rw [hml]; exact hl.1) rfl dX2_init_1 (Nat.le_of_ble_eq_true rfl) (Nat.le_of_ble_eq_true rfl) ?_
  refine W.eq (g2 := F0 m 4 ls []) rfl ?_
  refine lv_aload_n hx hb dX2_init_4 rfl (lv_at hl 0 rfl) ?_
  refine lv_iconst (v := 0) hx hb dX2_init_5 (by decide) ?_
  refine putF (D := G) (ci := 2) (v := .int (0 : Int32)) (ty := .int) (C := RX2) (T := TX2) (N := 4) hx hb hts inG_X2 tyX2 tyX2_ok nmX2 hown hK.1 hP hD hS 0 rfl rfl 0 (by decide) tf_X2_0 (hts _ wd_b6c4e808) pd_I rfl rfl (Nat.le_of_ble_eq_true rfl) dX2_init_6 (fun H locs hP hD hS => ?_)
  have hP : va_P G vwCl [(hp0, .inr (2, [.int (0 : Int32), .null, .null, .null]))] H := hP
  have hD : va_D A [(hp0, .inr (2, [.int (0 : Int32), .null, .null, .null]))] := hD
  refine lv_aload_n hx hb dX2_init_9 rfl (lv_at hl 0 rfl) ?_
  refine lv_iconst (v := 4) hx hb dX2_init_10 (by decide) ?_
  refine va_newa (atype := .int) (ty := .int) (N' := 4) (a0 := (4, .inl (fun _ => 0))) hx hb (hts _ wd_c201d5c8) rfl hK.1 hP hD hS hA (fun _ => rfl) (by decide) (by decide) (by decide) (Nat.le_of_ble_eq_true rfl) (Nat.le_of_ble_eq_true rfl) dX2_init_11 (fun q1 cA H hK9 hP hD hS => ?_)
  obtain rfl := ct_int hK hK9
  have hP : va_P G vwCl [(hp0, .inr (2, [.int (0 : Int32), .null, .null, .null])), (q1, .inl (E.1, 4, .inl (fun _ => 0)))] H := hP
  have hD : va_D A [(hp0, .inr (2, [.int (0 : Int32), .null, .null, .null])), (q1, .inl (E.1, 4, .inl (fun _ => 0)))] := hD
  refine putFF (D := G) (ci := 2) (v := .ref q1) (ty := .array .int) (C := RX2) (T := TX2) (N := 4) hx hb hts inG_X2 tyX2 tyX2_ok nmX2 hown hK.1 hP hD hS 0 rfl rfl 1 (by decide) tf_X2_1 (hts _ wd_449e3df7) hin pd_AI rfl rfl (Nat.le_of_ble_eq_true rfl) dX2_init_13 (fun H locs hP hD hS => ?_)
  have hP : va_P G vwCl [(hp0, .inr (2, [.int (0 : Int32), .ref q1, .null, .null])), (q1, .inl (E.1, 4, .inl (fun _ => 0)))] H := hP
  have hD : va_D A [(hp0, .inr (2, [.int (0 : Int32), .ref q1, .null, .null])), (q1, .inl (E.1, 4, .inl (fun _ => 0)))] := hD
  refine lv_aload_n hx hb dX2_init_16 rfl (lv_at hl 0 rfl) ?_
  refine lv_iconst (v := 4) hx hb dX2_init_17 (by decide) ?_
  refine va_newa (atype := .int) (ty := .int) (N' := 4) (a0 := (4, .inl (fun _ => 0))) hx hb (hts _ wd_c201d5c8) rfl hK.1 hP hD hS hA (fun _ => rfl) (by decide) (by decide) (by decide) (Nat.le_of_ble_eq_true rfl) (Nat.le_of_ble_eq_true rfl) dX2_init_18 (fun q2 cA H hK9 hP hD hS => ?_)
  obtain rfl := ct_int hK hK9
  have hP : va_P G vwCl [(hp0, .inr (2, [.int (0 : Int32), .ref q1, .null, .null])), (q1, .inl (E.1, 4, .inl (fun _ => 0))), (q2, .inl (E.1, 4, .inl (fun _ => 0)))] H := hP
  have hD : va_D A [(hp0, .inr (2, [.int (0 : Int32), .ref q1, .null, .null])), (q1, .inl (E.1, 4, .inl (fun _ => 0))), (q2, .inl (E.1, 4, .inl (fun _ => 0)))] := hD
  refine putFF (D := G) (ci := 2) (v := .ref q2) (ty := .array .int) (C := RX2) (T := TX2) (N := 4) hx hb hts inG_X2 tyX2 tyX2_ok nmX2 hown hK.1 hP hD hS 0 rfl rfl 2 (by decide) tf_X2_2 (hts _ wd_326ba59e) hin pd_AI rfl rfl (Nat.le_of_ble_eq_true rfl) dX2_init_20 (fun H locs hP hD hS => ?_)
  have hP : va_P G vwCl [(hp0, .inr (2, [.int (0 : Int32), .ref q1, .ref q2, .null])), (q1, .inl (E.1, 4, .inl (fun _ => 0))), (q2, .inl (E.1, 4, .inl (fun _ => 0)))] H := hP
  have hD : va_D A [(hp0, .inr (2, [.int (0 : Int32), .ref q1, .ref q2, .null])), (q1, .inl (E.1, 4, .inl (fun _ => 0))), (q2, .inl (E.1, 4, .inl (fun _ => 0)))] := hD
  refine lv_aload_n hx hb dX2_init_23 rfl (lv_at hl 0 rfl) ?_
  refine lv_sipush (v := 240) hx hb dX2_init_24 (by decide) ?_
  refine va_newa (atype := .int) (ty := .int) (N' := 240) (a0 := (240, .inl (fun _ => 0))) hx hb (hts _ wd_c201d5c8) rfl hK.1 hP hD hS hA (fun _ => rfl) (by decide) (by decide) (by decide) (Nat.le_of_ble_eq_true rfl) (Nat.le_of_ble_eq_true rfl) dX2_init_27 (fun q3 cA H hK9 hP hD hS => ?_)
  obtain rfl := ct_int hK hK9
  have hP : va_P G vwCl [(hp0, .inr (2, [.int (0 : Int32), .ref q1, .ref q2, .null])), (q1, .inl (E.1, 4, .inl (fun _ => 0))), (q2, .inl (E.1, 4, .inl (fun _ => 0))), (q3, .inl (E.1, 240, .inl (fun _ => 0)))] H := hP
  have hD : va_D A [(hp0, .inr (2, [.int (0 : Int32), .ref q1, .ref q2, .null])), (q1, .inl (E.1, 4, .inl (fun _ => 0))), (q2, .inl (E.1, 4, .inl (fun _ => 0))), (q3, .inl (E.1, 240, .inl (fun _ => 0)))] := hD
  refine putFF (D := G) (ci := 2) (v := .ref q3) (ty := .array .int) (C := RX2) (T := TX2) (N := 4) hx hb hts inG_X2 tyX2 tyX2_ok nmX2 hown hK.1 hP hD hS 0 rfl rfl 3 (by decide) tf_X2_3 (hts _ wd_427b6b2a) hin pd_AI rfl rfl (Nat.le_of_ble_eq_true rfl) dX2_init_29 (fun H locs hP hD hS => ?_)
  have hP : va_P G vwCl [(hp0, .inr (2, [.int (0 : Int32), .ref q1, .ref q2, .ref q3])), (q1, .inl (E.1, 4, .inl (fun _ => 0))), (q2, .inl (E.1, 4, .inl (fun _ => 0))), (q3, .inl (E.1, 240, .inl (fun _ => 0)))] H := hP
  have hD : va_D A [(hp0, .inr (2, [.int (0 : Int32), .ref q1, .ref q2, .ref q3])), (q1, .inl (E.1, 4, .inl (fun _ => 0))), (q2, .inl (E.1, 4, .inl (fun _ => 0))), (q3, .inl (E.1, 240, .inl (fun _ => 0)))] := hD
  exact ret _ _ _ _ (fun k => [q1, q2, q3].getD k 0) hP hD hS dX2_init_32
def f_X2_become (p1_count : Int32) (p1_letters : (Nat → Int32)) (p0_letters : (Nat → Int32)) (p1_lengths : (Nat → Int32)) (p0_lengths : (Nat → Int32)) (p1_bytes : (Nat → Int32)) (p0_bytes : (Nat → Int32)) : Option (Int32 × (Nat → Int32) × (Nat → Int32) × (Nat → Int32)) :=
  bn (va_cpy p1_letters p0_letters (0 : Int32).toNatClampNeg (0 : Int32).toNatClampNeg (4 : Int32).toNatClampNeg) fun m1 =>
  bn (va_cpy p1_lengths p0_lengths (0 : Int32).toNatClampNeg (0 : Int32).toNatClampNeg (4 : Int32).toNatClampNeg) fun m2 =>
  bn (va_cpy p1_bytes p0_bytes (0 : Int32).toNatClampNeg (0 : Int32).toNatClampNeg (240 : Int32).toNatClampNeg) fun m3 =>
  some (p1_count, m1, m2, m3)
abbrev w_rm_X2_become : Room := { frames := 1, cells := 0, slots := 0, locals := 64 }
set_option maxHeartbeats 4000000 in
set_option maxRecDepth 100000 in
theorem c_X2_become (l : Launch) (G : va_G) (E : ClassId × ClassId × ClassId) (hp1 : Nat) (p1_count : Int32) (hp1_letters : Nat) (hp1_lengths : Nat) (hp1_bytes : Nat) (hp0 : Nat) (p0_count : Int32) (hp0_letters : Nat) (hp0_lengths : Nat) (hp0_bytes : Nat) (p1_letters : (Nat → Int32)) (p0_letters : (Nat → Int32)) (p1_lengths : (Nat → Int32)) (p0_lengths : (Nat → Int32)) (p1_bytes : (Nat → Int32)) (p0_bytes : (Nat → Int32)) (o0 : Int32) (o1 : (Nat → Int32)) (o2 : (Nat → Int32)) (o3 : (Nat → Int32)) (h : f_X2_become p1_count p1_letters p0_letters p1_lengths p0_lengths p1_bytes p0_bytes = some (o0, o1, o2, o3)) : MV l G E yX2_become cX2_become 2 w_rm_X2_become [.ref hp0, .ref hp1] [(hp1, .inr (2, [.int p1_count, .ref hp1_letters, .ref hp1_lengths, .ref hp1_bytes])), (hp0, .inr (2, [.int p0_count, .ref hp0_letters, .ref hp0_lengths, .ref hp0_bytes])), (hp1_letters, .inl (E.1, 4, .inl p1_letters)), (hp0_letters, .inl (E.1, 4, .inl p0_letters)), (hp1_lengths, .inl (E.1, 4, .inl p1_lengths)), (hp0_lengths, .inl (E.1, 4, .inl p0_lengths)), (hp1_bytes, .inl (E.1, 240, .inl p1_bytes)), (hp0_bytes, .inl (E.1, 240, .inl p0_bytes))] (fun a => [(hp1, .inr (2, [.int p1_count, .ref hp1_letters, .ref hp1_lengths, .ref hp1_bytes])), (hp0, .inr (2, [.int o0, .ref hp0_letters, .ref hp0_lengths, .ref hp0_bytes])), (hp1_letters, .inl (E.1, 4, .inl p1_letters)), (hp0_letters, .inl (E.1, 4, .inl o1)), (hp1_lengths, .inl (E.1, 4, .inl p1_lengths)), (hp0_lengths, .inl (E.1, 4, .inl o2)), (hp1_bytes, .inl (E.1, 240, .inl p1_bytes)), (hp0_bytes, .inl (E.1, 240, .inl o3))]) 0 0 := by
  refine MV_of (by decide) (Nat.le_of_ble_eq_true rfl) ?_
  intro p e s m args below meth c A Q hx hb hml hown hin hts hK hA hP hD hS ret ls hl
  replace ret : ∀ (R : (Int32 × (Nat → Int32) × (Nat → Int32) × (Nat → Int32))), R = (o0, o1, o2, o3) → ∀ (H : Heap) (locs : List Loc) (pc : Nat) (ls : Array Slot) (a : Nat → Nat), va_P G vwCl [(hp1, .inr (2, [.int p1_count, .ref hp1_letters, .ref hp1_lengths, .ref hp1_bytes])), (hp0, .inr (2, [.int R.1, .ref hp0_letters, .ref hp0_lengths, .ref hp0_bytes])), (hp1_letters, .inl (E.1, 4, .inl p1_letters)), (hp0_letters, .inl (E.1, 4, .inl R.2.1)), (hp1_lengths, .inl (E.1, 4, .inl p1_lengths)), (hp0_lengths, .inl (E.1, 4, .inl R.2.2.1)), (hp1_bytes, .inl (E.1, 240, .inl p1_bytes)), (hp0_bytes, .inl (E.1, 240, .inl R.2.2.2))] H → va_D A [(hp1, .inr (2, [.int p1_count, .ref hp1_letters, .ref hp1_lengths, .ref hp1_bytes])), (hp0, .inr (2, [.int R.1, .ref hp0_letters, .ref hp0_lengths, .ref hp0_bytes])), (hp1_letters, .inl (E.1, 4, .inl p1_letters)), (hp0_letters, .inl (E.1, 4, .inl R.2.1)), (hp1_lengths, .inl (E.1, 4, .inl p1_lengths)), (hp0_lengths, .inl (E.1, 4, .inl R.2.2.1)), (hp1_bytes, .inl (E.1, 240, .inl p1_bytes)), (hp0_bytes, .inl (E.1, 240, .inl R.2.2.2))] → va_S A s.heap H locs → decode cX2_become pc = .ok (.return_, 1) → W p l e w_rm_X2_become s m args below meth c H locs 0 0 Q (F0 m pc ls []) := by
    intro R hR
    subst hR
    exact ret
  replace hl : lv_has ls 2 [(0, .ref hp0), (1, .ref hp1)] := hl
  unfold f_X2_become at h
  refine lv_aload_n hx hb dX2_become_0 rfl (lv_at hl 0 rfl) ?_
  refine lv_aload_n hx hb dX2_become_1 rfl (lv_at hl 1 rfl) ?_
  refine getF (D := G) (ci := 2) (v := .int p1_count) (C := RX2) (T := TX2) (N := 4) hx hb hts inG_X2 hown hK.1 hP 0 rfl rfl 0 (by decide) tf_X2_0 (hts _ wd_b6c4e808) rfl dX2_become_2 ?_
  refine putF (D := G) (ci := 2) (v := .int p1_count) (ty := .int) (C := RX2) (T := TX2) (N := 4) hx hb hts inG_X2 tyX2 tyX2_ok nmX2 hown hK.1 hP hD hS 1 rfl rfl 0 (by decide) tf_X2_0 (hts _ wd_b6c4e808) pd_I rfl rfl (Nat.le_of_ble_eq_true rfl) dX2_become_5 (fun H locs hP hD hS => ?_)
  have hP : va_P G vwCl [(hp1, .inr (2, [.int p1_count, .ref hp1_letters, .ref hp1_lengths, .ref hp1_bytes])), (hp0, .inr (2, [.int p1_count, .ref hp0_letters, .ref hp0_lengths, .ref hp0_bytes])), (hp1_letters, .inl (E.1, 4, .inl p1_letters)), (hp0_letters, .inl (E.1, 4, .inl p0_letters)), (hp1_lengths, .inl (E.1, 4, .inl p1_lengths)), (hp0_lengths, .inl (E.1, 4, .inl p0_lengths)), (hp1_bytes, .inl (E.1, 240, .inl p1_bytes)), (hp0_bytes, .inl (E.1, 240, .inl p0_bytes))] H := hP
  have hD : va_D A [(hp1, .inr (2, [.int p1_count, .ref hp1_letters, .ref hp1_lengths, .ref hp1_bytes])), (hp0, .inr (2, [.int p1_count, .ref hp0_letters, .ref hp0_lengths, .ref hp0_bytes])), (hp1_letters, .inl (E.1, 4, .inl p1_letters)), (hp0_letters, .inl (E.1, 4, .inl p0_letters)), (hp1_lengths, .inl (E.1, 4, .inl p1_lengths)), (hp0_lengths, .inl (E.1, 4, .inl p0_lengths)), (hp1_bytes, .inl (E.1, 240, .inl p1_bytes)), (hp0_bytes, .inl (E.1, 240, .inl p0_bytes))] := hD
  refine lv_aload_n hx hb dX2_become_8 rfl (lv_at hl 1 rfl) ?_
  refine getF (D := G) (ci := 2) (v := .ref hp1_letters) (C := RX2) (T := TX2) (N := 4) hx hb hts inG_X2 hown hK.1 hP 0 rfl rfl 1 (by decide) tf_X2_1 (hts _ wd_449e3df7) rfl dX2_become_9 ?_
  refine lv_iconst (v := 0) hx hb dX2_become_12 (by decide) ?_
  refine lv_aload_n hx hb dX2_become_13 rfl (lv_at hl 0 rfl) ?_
  refine getF (D := G) (ci := 2) (v := .ref hp0_letters) (C := RX2) (T := TX2) (N := 4) hx hb hts inG_X2 hown hK.1 hP 1 rfl rfl 1 (by decide) tf_X2_1 (hts _ wd_449e3df7) rfl dX2_become_14 ?_
  refine lv_iconst (v := 0) hx hb dX2_become_17 (by decide) ?_
  refine lv_iconst (v := 4) hx hb dX2_become_18 (by decide) ?_
  refine va_copyi hx hb (hml.trans hl.1.symm) hown (hts _ wd_795b48e7) (hts _ wd_b8e2a615) (hts _ wd_0f5f9aba) (hts _ wd_4e16621c) hK.1 hP hD hS 2 3 0 0 rfl rfl rfl rfl rfl (by decide) (by decide) (by decide) (by decide) (by decide) (fun _ _ => rfl) (Nat.le_of_ble_eq_true rfl) (by decide +kernel) dX2_become_19 (fun H locs hP hD hS => ?_)
  have hP : va_P G vwCl [(hp1, .inr (2, [.int p1_count, .ref hp1_letters, .ref hp1_lengths, .ref hp1_bytes])), (hp0, .inr (2, [.int p1_count, .ref hp0_letters, .ref hp0_lengths, .ref hp0_bytes])), (hp1_letters, .inl (E.1, 4, .inl p1_letters)), (hp0_letters, .inl (E.1, 4, .inl (va_cpy p1_letters p0_letters (0 : Int32).toNatClampNeg (0 : Int32).toNatClampNeg (4 : Int32).toNatClampNeg))), (hp1_lengths, .inl (E.1, 4, .inl p1_lengths)), (hp0_lengths, .inl (E.1, 4, .inl p0_lengths)), (hp1_bytes, .inl (E.1, 240, .inl p1_bytes)), (hp0_bytes, .inl (E.1, 240, .inl p0_bytes))] H := hP
  have hD : va_D A [(hp1, .inr (2, [.int p1_count, .ref hp1_letters, .ref hp1_lengths, .ref hp1_bytes])), (hp0, .inr (2, [.int p1_count, .ref hp0_letters, .ref hp0_lengths, .ref hp0_bytes])), (hp1_letters, .inl (E.1, 4, .inl p1_letters)), (hp0_letters, .inl (E.1, 4, .inl (va_cpy p1_letters p0_letters (0 : Int32).toNatClampNeg (0 : Int32).toNatClampNeg (4 : Int32).toNatClampNeg))), (hp1_lengths, .inl (E.1, 4, .inl p1_lengths)), (hp0_lengths, .inl (E.1, 4, .inl p0_lengths)), (hp1_bytes, .inl (E.1, 240, .inl p1_bytes)), (hp0_bytes, .inl (E.1, 240, .inl p0_bytes))] := hD
  obtain ⟨m1, em1⟩ : ∃ y : Nat → Int32, y = va_cpy p1_letters p0_letters (0 : Int32).toNatClampNeg (0 : Int32).toNatClampNeg (4 : Int32).toNatClampNeg := ⟨_, rfl⟩
  replace h := bn_t h em1
  rw [← em1] at hP hD
  refine lv_aload_n hx hb dX2_become_22 rfl (lv_at hl 1 rfl) ?_
  refine getF (D := G) (ci := 2) (v := .ref hp1_lengths) (C := RX2) (T := TX2) (N := 4) hx hb hts inG_X2 hown hK.1 hP 0 rfl rfl 2 (by decide) tf_X2_2 (hts _ wd_326ba59e) rfl dX2_become_23 ?_
  refine lv_iconst (v := 0) hx hb dX2_become_26 (by decide) ?_
  refine lv_aload_n hx hb dX2_become_27 rfl (lv_at hl 0 rfl) ?_
  refine getF (D := G) (ci := 2) (v := .ref hp0_lengths) (C := RX2) (T := TX2) (N := 4) hx hb hts inG_X2 hown hK.1 hP 1 rfl rfl 2 (by decide) tf_X2_2 (hts _ wd_326ba59e) rfl dX2_become_28 ?_
  refine lv_iconst (v := 0) hx hb dX2_become_31 (by decide) ?_
  refine lv_iconst (v := 4) hx hb dX2_become_32 (by decide) ?_
  refine va_copyi hx hb (hml.trans hl.1.symm) hown (hts _ wd_795b48e7) (hts _ wd_b8e2a615) (hts _ wd_0f5f9aba) (hts _ wd_4e16621c) hK.1 hP hD hS 4 5 0 0 rfl rfl rfl rfl rfl (by decide) (by decide) (by decide) (by decide) (by decide) (fun _ _ => rfl) (Nat.le_of_ble_eq_true rfl) (by decide +kernel) dX2_become_33 (fun H locs hP hD hS => ?_)
  have hP : va_P G vwCl [(hp1, .inr (2, [.int p1_count, .ref hp1_letters, .ref hp1_lengths, .ref hp1_bytes])), (hp0, .inr (2, [.int p1_count, .ref hp0_letters, .ref hp0_lengths, .ref hp0_bytes])), (hp1_letters, .inl (E.1, 4, .inl p1_letters)), (hp0_letters, .inl (E.1, 4, .inl m1)), (hp1_lengths, .inl (E.1, 4, .inl p1_lengths)), (hp0_lengths, .inl (E.1, 4, .inl (va_cpy p1_lengths p0_lengths (0 : Int32).toNatClampNeg (0 : Int32).toNatClampNeg (4 : Int32).toNatClampNeg))), (hp1_bytes, .inl (E.1, 240, .inl p1_bytes)), (hp0_bytes, .inl (E.1, 240, .inl p0_bytes))] H := hP
  have hD : va_D A [(hp1, .inr (2, [.int p1_count, .ref hp1_letters, .ref hp1_lengths, .ref hp1_bytes])), (hp0, .inr (2, [.int p1_count, .ref hp0_letters, .ref hp0_lengths, .ref hp0_bytes])), (hp1_letters, .inl (E.1, 4, .inl p1_letters)), (hp0_letters, .inl (E.1, 4, .inl m1)), (hp1_lengths, .inl (E.1, 4, .inl p1_lengths)), (hp0_lengths, .inl (E.1, 4, .inl (va_cpy p1_lengths p0_lengths (0 : Int32).toNatClampNeg (0 : Int32).toNatClampNeg (4 : Int32).toNatClampNeg))), (hp1_bytes, .inl (E.1, 240, .inl p1_bytes)), (hp0_bytes, .inl (E.1, 240, .inl p0_bytes))] := hD
  obtain ⟨m2, em2⟩ : ∃ y : Nat → Int32, y = va_cpy p1_lengths p0_lengths (0 : Int32).toNatClampNeg (0 : Int32).toNatClampNeg (4 : Int32).toNatClampNeg := ⟨_, rfl⟩
  replace h := bn_t h em2
  rw [← em2] at hP hD
  refine lv_aload_n hx hb dX2_become_36 rfl (lv_at hl 1 rfl) ?_
  refine getF (D := G) (ci := 2) (v := .ref hp1_bytes) (C := RX2) (T := TX2) (N := 4) hx hb hts inG_X2 hown hK.1 hP 0 rfl rfl 3 (by decide) tf_X2_3 (hts _ wd_427b6b2a) rfl dX2_become_37 ?_
  refine lv_iconst (v := 0) hx hb dX2_become_40 (by decide) ?_
  refine lv_aload_n hx hb dX2_become_41 rfl (lv_at hl 0 rfl) ?_
  refine getF (D := G) (ci := 2) (v := .ref hp0_bytes) (C := RX2) (T := TX2) (N := 4) hx hb hts inG_X2 hown hK.1 hP 1 rfl rfl 3 (by decide) tf_X2_3 (hts _ wd_427b6b2a) rfl dX2_become_42 ?_
  refine lv_iconst (v := 0) hx hb dX2_become_45 (by decide) ?_
  refine lv_sipush (v := 240) hx hb dX2_become_46 (by decide) ?_
  refine va_copyi hx hb (hml.trans hl.1.symm) hown (hts _ wd_795b48e7) (hts _ wd_b8e2a615) (hts _ wd_0f5f9aba) (hts _ wd_4e16621c) hK.1 hP hD hS 6 7 0 0 rfl rfl rfl rfl rfl (by decide) (by decide) (by decide) (by decide) (by decide) (fun _ _ => rfl) (Nat.le_of_ble_eq_true rfl) (by decide +kernel) dX2_become_49 (fun H locs hP hD hS => ?_)
  have hP : va_P G vwCl [(hp1, .inr (2, [.int p1_count, .ref hp1_letters, .ref hp1_lengths, .ref hp1_bytes])), (hp0, .inr (2, [.int p1_count, .ref hp0_letters, .ref hp0_lengths, .ref hp0_bytes])), (hp1_letters, .inl (E.1, 4, .inl p1_letters)), (hp0_letters, .inl (E.1, 4, .inl m1)), (hp1_lengths, .inl (E.1, 4, .inl p1_lengths)), (hp0_lengths, .inl (E.1, 4, .inl m2)), (hp1_bytes, .inl (E.1, 240, .inl p1_bytes)), (hp0_bytes, .inl (E.1, 240, .inl (va_cpy p1_bytes p0_bytes (0 : Int32).toNatClampNeg (0 : Int32).toNatClampNeg (240 : Int32).toNatClampNeg)))] H := hP
  have hD : va_D A [(hp1, .inr (2, [.int p1_count, .ref hp1_letters, .ref hp1_lengths, .ref hp1_bytes])), (hp0, .inr (2, [.int p1_count, .ref hp0_letters, .ref hp0_lengths, .ref hp0_bytes])), (hp1_letters, .inl (E.1, 4, .inl p1_letters)), (hp0_letters, .inl (E.1, 4, .inl m1)), (hp1_lengths, .inl (E.1, 4, .inl p1_lengths)), (hp0_lengths, .inl (E.1, 4, .inl m2)), (hp1_bytes, .inl (E.1, 240, .inl p1_bytes)), (hp0_bytes, .inl (E.1, 240, .inl (va_cpy p1_bytes p0_bytes (0 : Int32).toNatClampNeg (0 : Int32).toNatClampNeg (240 : Int32).toNatClampNeg)))] := hD
  obtain ⟨m3, em3⟩ : ∃ y : Nat → Int32, y = va_cpy p1_bytes p0_bytes (0 : Int32).toNatClampNeg (0 : Int32).toNatClampNeg (240 : Int32).toNatClampNeg := ⟨_, rfl⟩
  replace h := bn_t h em3
  rw [← em3] at hP hD
  exact ret (p1_count, m1, m2, m3) (Option.some.inj h) _ _ _ _ (fun _ => 0) hP hD hS dX2_become_52
def B_X2_addFrom_46 (i2 : Int32) (i3 : Int32) (p0_count : Int32) (p1_bytes : (Nat → Int32)) (rec46 : (Nat → Int32) → Int32 → Option (Int32 × (Nat → Int32) × (Nat → Int32) × (Nat → Int32))) (K84 : (Nat → Int32) → Int32 → Option (Int32 × (Nat → Int32) × (Nat → Int32) × (Nat → Int32))) (z10 : (Nat → Int32)) (z11 : Int32) : Option (Int32 × (Nat → Int32) × (Nat → Int32) × (Nat → Int32)) :=
  if i3 ≤ z11 then (
  K84 z10 z11)
  else
  bd (f_X0_byteAt ((i2 + (8 : Int32)) + z11) p1_bytes) fun u13 =>
  gin ((p0_count * (60 : Int32)) + z11) 240 <|
  bn (upd z10 ((p0_count * (60 : Int32)) + z11).toNatClampNeg u13) fun m16 =>
  bn (z11 + 1) fun x17 =>
  rec46 m16 x17
def L_X2_addFrom_46 (i2 : Int32) (i3 : Int32) (p0_count : Int32) (p1_bytes : (Nat → Int32)) (K84 : (Nat → Int32) → Int32 → Option (Int32 × (Nat → Int32) × (Nat → Int32) × (Nat → Int32))) : Nat → (Nat → Int32) → Int32 → Option (Int32 × (Nat → Int32) × (Nat → Int32) × (Nat → Int32))
    | 0, _, _ => none
    | n + 1, z10, z11 => B_X2_addFrom_46 i2 i3 p0_count p1_bytes (fun z10 z11 => L_X2_addFrom_46 i2 i3 p0_count p1_bytes K84 n z10 z11) K84 z10 z11
def f_X2_addFrom (N : Nat) (i2 : Int32) (i3 : Int32) (p0_count : Int32) (p1_bytes : (Nat → Int32)) (p0_letters : (Nat → Int32)) (p0_lengths : (Nat → Int32)) (p0_bytes : (Nat → Int32)) : Option (Int32 × (Nat → Int32) × (Nat → Int32) × (Nat → Int32)) :=
  if (4 : Int32) ≤ p0_count then (
  some (p0_count, p0_letters, p0_lengths, p0_bytes))
  else
  if i3 < 0 then (
  some (p0_count, p0_letters, p0_lengths, p0_bytes))
  else
  if i3 ≤ (60 : Int32) then (
  bd (f_X0_fourAt i2 p1_bytes) fun u4 =>
  gin p0_count 4 <|
  bn (upd p0_letters p0_count.toNatClampNeg u4) fun m7 =>
  gin p0_count 4 <|
  bn (upd p0_lengths p0_count.toNatClampNeg i3) fun m9 =>
  L_X2_addFrom_46 i2 i3 p0_count p1_bytes 
  (fun z10 z11 =>
  bn (p0_count + (1 : Int32)) fun x18 =>
  some (x18, m7, m9, z10)) N p0_bytes (0 : Int32))
  else
  some (p0_count, p0_letters, p0_lengths, p0_bytes)
abbrev w_rm_X2_addFrom : Room := { frames := 1, cells := 0, slots := 0, locals := 21 }
set_option maxHeartbeats 4000000 in
set_option maxRecDepth 100000 in
theorem c_X2_addFrom (l : Launch) (G : va_G) (E : ClassId × ClassId × ClassId) (N : Nat) (hp0 : Nat) (p0_count : Int32) (hp0_letters : Nat) (hp0_lengths : Nat) (hp0_bytes : Nat) (hp1 : Nat) (hp1_bytes : Nat) (p1_size : Int32) (p1_overflowed : Int32) (p1_bytes : (Nat → Int32)) (p0_letters : (Nat → Int32)) (p0_lengths : (Nat → Int32)) (p0_bytes : (Nat → Int32)) (i2 : Int32) (i3 : Int32) (o0 : Int32) (o1 : (Nat → Int32)) (o2 : (Nat → Int32)) (o3 : (Nat → Int32)) (h : f_X2_addFrom N i2 i3 p0_count p1_bytes p0_letters p0_lengths p0_bytes = some (o0, o1, o2, o3)) : MV l G E yX2_addFrom cX2_addFrom 5 w_rm_X2_addFrom [.ref hp0, .ref hp1, .int i2, .int i3] [(hp0, .inr (2, [.int p0_count, .ref hp0_letters, .ref hp0_lengths, .ref hp0_bytes])), (hp1, .inr (0, [.ref hp1_bytes, .int p1_size, .int p1_overflowed])), (hp1_bytes, .inl (E.1, 1200, .inl p1_bytes)), (hp0_letters, .inl (E.1, 4, .inl p0_letters)), (hp0_lengths, .inl (E.1, 4, .inl p0_lengths)), (hp0_bytes, .inl (E.1, 240, .inl p0_bytes))] (fun a => [(hp0, .inr (2, [.int o0, .ref hp0_letters, .ref hp0_lengths, .ref hp0_bytes])), (hp1, .inr (0, [.ref hp1_bytes, .int p1_size, .int p1_overflowed])), (hp1_bytes, .inl (E.1, 1200, .inl p1_bytes)), (hp0_letters, .inl (E.1, 4, .inl o1)), (hp0_lengths, .inl (E.1, 4, .inl o2)), (hp0_bytes, .inl (E.1, 240, .inl o3))]) 0 0 := by
  refine MV_of (by decide) (Nat.le_of_ble_eq_true rfl) ?_
  intro p e s m args below meth c A Q hx hb hml hown hin hts hK hA hP hD hS ret ls hl
  replace ret : ∀ (R : (Int32 × (Nat → Int32) × (Nat → Int32) × (Nat → Int32))), R = (o0, o1, o2, o3) → ∀ (H : Heap) (locs : List Loc) (pc : Nat) (ls : Array Slot) (a : Nat → Nat), va_P G vwCl [(hp0, .inr (2, [.int R.1, .ref hp0_letters, .ref hp0_lengths, .ref hp0_bytes])), (hp1, .inr (0, [.ref hp1_bytes, .int p1_size, .int p1_overflowed])), (hp1_bytes, .inl (E.1, 1200, .inl p1_bytes)), (hp0_letters, .inl (E.1, 4, .inl R.2.1)), (hp0_lengths, .inl (E.1, 4, .inl R.2.2.1)), (hp0_bytes, .inl (E.1, 240, .inl R.2.2.2))] H → va_D A [(hp0, .inr (2, [.int R.1, .ref hp0_letters, .ref hp0_lengths, .ref hp0_bytes])), (hp1, .inr (0, [.ref hp1_bytes, .int p1_size, .int p1_overflowed])), (hp1_bytes, .inl (E.1, 1200, .inl p1_bytes)), (hp0_letters, .inl (E.1, 4, .inl R.2.1)), (hp0_lengths, .inl (E.1, 4, .inl R.2.2.1)), (hp0_bytes, .inl (E.1, 240, .inl R.2.2.2))] → va_S A s.heap H locs → decode cX2_addFrom pc = .ok (.return_, 1) → W p l e w_rm_X2_addFrom s m args below meth c H locs 0 0 Q (F0 m pc ls []) := by
    intro R hR
    subst hR
    exact ret
  replace hl : lv_has ls 5 [(0, .ref hp0), (1, .ref hp1), (2, .int i2), (3, .int i3)] := hl
  unfold f_X2_addFrom at h
  refine lv_aload_n hx hb dX2_addFrom_0 rfl (lv_at hl 0 rfl) ?_
  refine getF (D := G) (ci := 2) (v := .int p0_count) (C := RX2) (T := TX2) (N := 4) hx hb hts inG_X2 hown hK.1 hP 0 rfl rfl 0 (by decide) tf_X2_0 (hts _ wd_b6c4e808) rfl dX2_addFrom_1 ?_
  refine lv_iconst (v := 4) hx hb dX2_addFrom_4 (by decide) ?_
  refine lv_icmp_ge (tgt := 18) hx hb dX2_addFrom_5 (by decide) (fun c1 => ?_) (fun c1 => ?_)
  · replace h := if_t h c1
    exact ret (p0_count, p0_letters, p0_lengths, p0_bytes) (Option.some.inj h) _ _ _ _ (fun _ => 0) hP hD hS dX2_addFrom_18
  · replace h := if_f h c1
    refine lv_iload_n hx hb dX2_addFrom_8 rfl (lv_at hl 3 rfl) ?_
    refine lv_if_lt (tgt := 18) hx hb dX2_addFrom_9 (by decide) (fun c2 => ?_) (fun c2 => ?_)
    · replace h := if_t h c2
      exact ret (p0_count, p0_letters, p0_lengths, p0_bytes) (Option.some.inj h) _ _ _ _ (fun _ => 0) hP hD hS dX2_addFrom_18
    · replace h := if_f h c2
      refine lv_iload_n hx hb dX2_addFrom_12 rfl (lv_at hl 3 rfl) ?_
      refine lv_bipush (v := 60) hx hb dX2_addFrom_13 (by decide) ?_
      refine lv_icmp_le (tgt := 19) hx hb dX2_addFrom_15 (by decide) (fun c3 => ?_) (fun c3 => ?_)
      · replace h := if_t h c3
        refine lv_aload_n hx hb dX2_addFrom_19 rfl (lv_at hl 0 rfl) ?_
        refine getF (D := G) (ci := 2) (v := .ref hp0_letters) (C := RX2) (T := TX2) (N := 4) hx hb hts inG_X2 hown hK.1 hP 0 rfl rfl 1 (by decide) tf_X2_1 (hts _ wd_449e3df7) rfl dX2_addFrom_20 ?_
        refine lv_aload_n hx hb dX2_addFrom_23 rfl (lv_at hl 0 rfl) ?_
        refine getF (D := G) (ci := 2) (v := .int p0_count) (C := RX2) (T := TX2) (N := 4) hx hb hts inG_X2 hown hK.1 hP 0 rfl rfl 0 (by decide) tf_X2_0 (hts _ wd_b6c4e808) rfl dX2_addFrom_24 ?_
        refine lv_aload_n hx hb dX2_addFrom_27 rfl (lv_at hl 1 rfl) ?_
        refine lv_iload_n hx hb dX2_addFrom_28 rfl (lv_at hl 2 rfl) ?_
        obtain ⟨u4, hu4, h⟩ := bd_t h
        refine cVi (wr := [(hp0, .inr (2, [.int p0_count, .ref hp0_letters, .ref hp0_lengths, .ref hp0_bytes])), (hp0_letters, .inl (E.1, 4, .inl p0_letters)), (hp0_lengths, .inl (E.1, 4, .inl p0_lengths)), (hp0_bytes, .inl (E.1, 240, .inl p0_bytes))]) (As := [.int i2]) (rest := [.int p0_count, .ref hp0_letters]) ⟨hx, hb, hml, hown, hts⟩ (c_X0_fourAt l G E hp1 hp1_bytes p1_size p1_overflowed p1_bytes i2 u4 hu4) ok_X0_fourAt okv_X0_fourAt wd_fdbf7a08 ⟨Nat.le_of_ble_eq_true rfl, Nat.le_of_ble_eq_true rfl⟩ hK hP hD hS hA [1, 2] [0, 3, 4, 5] rfl rfl (by decide) (by decide) (by decide) (va_recv hK.1 hP (ci := 0) (q0 := 1) rfl rfl) rfl hl.1 rfl (Nat.le_of_ble_eq_true rfl) dX2_addFrom_29 ⟨Nat.le_of_ble_eq_true rfl, Nat.le_of_ble_eq_true rfl⟩ (fun H locs a5 hP hD hS => ?_)
        have hP : va_P G vwCl [(hp0, .inr (2, [.int p0_count, .ref hp0_letters, .ref hp0_lengths, .ref hp0_bytes])), (hp0_letters, .inl (E.1, 4, .inl p0_letters)), (hp0_lengths, .inl (E.1, 4, .inl p0_lengths)), (hp0_bytes, .inl (E.1, 240, .inl p0_bytes)), (hp1, .inr (0, [.ref hp1_bytes, .int p1_size, .int p1_overflowed])), (hp1_bytes, .inl (E.1, 1200, .inl p1_bytes))] H := hP
        have hD : va_D A [(hp0, .inr (2, [.int p0_count, .ref hp0_letters, .ref hp0_lengths, .ref hp0_bytes])), (hp0_letters, .inl (E.1, 4, .inl p0_letters)), (hp0_lengths, .inl (E.1, 4, .inl p0_lengths)), (hp0_bytes, .inl (E.1, 240, .inl p0_bytes)), (hp1, .inr (0, [.ref hp1_bytes, .int p1_size, .int p1_overflowed])), (hp1_bytes, .inl (E.1, 1200, .inl p1_bytes))] := hD
        obtain ⟨g6, h⟩ := gin_t h
        refine va_iast hx hb hK.1 hP hD hS 1 0 rfl rfl g6 dX2_addFrom_32 (fun H locs hP hD hS => ?_)
        have hP : va_P G vwCl [(hp0, .inr (2, [.int p0_count, .ref hp0_letters, .ref hp0_lengths, .ref hp0_bytes])), (hp0_letters, .inl (E.1, 4, .inl (upd p0_letters p0_count.toNatClampNeg u4))), (hp0_lengths, .inl (E.1, 4, .inl p0_lengths)), (hp0_bytes, .inl (E.1, 240, .inl p0_bytes)), (hp1, .inr (0, [.ref hp1_bytes, .int p1_size, .int p1_overflowed])), (hp1_bytes, .inl (E.1, 1200, .inl p1_bytes))] H := hP
        have hD : va_D A [(hp0, .inr (2, [.int p0_count, .ref hp0_letters, .ref hp0_lengths, .ref hp0_bytes])), (hp0_letters, .inl (E.1, 4, .inl (upd p0_letters p0_count.toNatClampNeg u4))), (hp0_lengths, .inl (E.1, 4, .inl p0_lengths)), (hp0_bytes, .inl (E.1, 240, .inl p0_bytes)), (hp1, .inr (0, [.ref hp1_bytes, .int p1_size, .int p1_overflowed])), (hp1_bytes, .inl (E.1, 1200, .inl p1_bytes))] := hD
        obtain ⟨m7, em7⟩ : ∃ y : Nat → Int32, y = upd p0_letters p0_count.toNatClampNeg u4 := ⟨_, rfl⟩
        replace h := bn_t h em7
        rw [← em7] at hP hD
        refine lv_aload_n hx hb dX2_addFrom_33 rfl (lv_at hl 0 rfl) ?_
        refine getF (D := G) (ci := 2) (v := .ref hp0_lengths) (C := RX2) (T := TX2) (N := 4) hx hb hts inG_X2 hown hK.1 hP 0 rfl rfl 2 (by decide) tf_X2_2 (hts _ wd_326ba59e) rfl dX2_addFrom_34 ?_
        refine lv_aload_n hx hb dX2_addFrom_37 rfl (lv_at hl 0 rfl) ?_
        refine getF (D := G) (ci := 2) (v := .int p0_count) (C := RX2) (T := TX2) (N := 4) hx hb hts inG_X2 hown hK.1 hP 0 rfl rfl 0 (by decide) tf_X2_0 (hts _ wd_b6c4e808) rfl dX2_addFrom_38 ?_
        refine lv_iload_n hx hb dX2_addFrom_41 rfl (lv_at hl 3 rfl) ?_
        obtain ⟨g8, h⟩ := gin_t h
        refine va_iast hx hb hK.1 hP hD hS 2 0 rfl rfl g8 dX2_addFrom_42 (fun H locs hP hD hS => ?_)
        have hP : va_P G vwCl [(hp0, .inr (2, [.int p0_count, .ref hp0_letters, .ref hp0_lengths, .ref hp0_bytes])), (hp0_letters, .inl (E.1, 4, .inl m7)), (hp0_lengths, .inl (E.1, 4, .inl (upd p0_lengths p0_count.toNatClampNeg i3))), (hp0_bytes, .inl (E.1, 240, .inl p0_bytes)), (hp1, .inr (0, [.ref hp1_bytes, .int p1_size, .int p1_overflowed])), (hp1_bytes, .inl (E.1, 1200, .inl p1_bytes))] H := hP
        have hD : va_D A [(hp0, .inr (2, [.int p0_count, .ref hp0_letters, .ref hp0_lengths, .ref hp0_bytes])), (hp0_letters, .inl (E.1, 4, .inl m7)), (hp0_lengths, .inl (E.1, 4, .inl (upd p0_lengths p0_count.toNatClampNeg i3))), (hp0_bytes, .inl (E.1, 240, .inl p0_bytes)), (hp1, .inr (0, [.ref hp1_bytes, .int p1_size, .int p1_overflowed])), (hp1_bytes, .inl (E.1, 1200, .inl p1_bytes))] := hD
        obtain ⟨m9, em9⟩ : ∃ y : Nat → Int32, y = upd p0_lengths p0_count.toNatClampNeg i3 := ⟨_, rfl⟩
        replace h := bn_t h em9
        rw [← em9] at hP hD
        refine lv_iconst (v := 0) hx hb dX2_addFrom_43 (by decide) ?_
        refine lv_istore (lv' := [(4, .int (0 : Int32)), (0, .ref hp0), (1, .ref hp1), (2, .int i2), (3, .int i3)]) hx hb dX2_addFrom_44 hl (by decide) rfl (fun ls hl => ?_)
        have hL46 : ∀ (K84 : (Nat → Int32) → Int32 → Option (Int32 × (Nat → Int32) × (Nat → Int32) × (Nat → Int32))), (∀ (z10 : (Nat → Int32)) (z11 : Int32), K84 z10 z11 = some (o0, o1, o2, o3) → ∀ (H : Heap) (locs : List Loc) (ls : Array Slot), va_P G vwCl [(hp0, .inr (2, [.int p0_count, .ref hp0_letters, .ref hp0_lengths, .ref hp0_bytes])), (hp0_letters, .inl (E.1, 4, .inl m7)), (hp0_lengths, .inl (E.1, 4, .inl m9)), (hp0_bytes, .inl (E.1, 240, .inl z10)), (hp1, .inr (0, [.ref hp1_bytes, .int p1_size, .int p1_overflowed])), (hp1_bytes, .inl (E.1, 1200, .inl p1_bytes))] H → va_D A [(hp0, .inr (2, [.int p0_count, .ref hp0_letters, .ref hp0_lengths, .ref hp0_bytes])), (hp0_letters, .inl (E.1, 4, .inl m7)), (hp0_lengths, .inl (E.1, 4, .inl m9)), (hp0_bytes, .inl (E.1, 240, .inl z10)), (hp1, .inr (0, [.ref hp1_bytes, .int p1_size, .int p1_overflowed])), (hp1_bytes, .inl (E.1, 1200, .inl p1_bytes))] → va_S A s.heap H locs → lv_has ls 5 [(0, .ref hp0)] → W p l e w_rm_X2_addFrom s m args below meth c H locs 0 0 Q (F0 m 84 ls [])) → ∀ (n : Nat) (z10 : (Nat → Int32)) (z11 : Int32), L_X2_addFrom_46 i2 i3 p0_count p1_bytes K84 n z10 z11 = some (o0, o1, o2, o3) → ∀ (H : Heap) (locs : List Loc) (ls : Array Slot), va_P G vwCl [(hp0, .inr (2, [.int p0_count, .ref hp0_letters, .ref hp0_lengths, .ref hp0_bytes])), (hp0_letters, .inl (E.1, 4, .inl m7)), (hp0_lengths, .inl (E.1, 4, .inl m9)), (hp0_bytes, .inl (E.1, 240, .inl z10)), (hp1, .inr (0, [.ref hp1_bytes, .int p1_size, .int p1_overflowed])), (hp1_bytes, .inl (E.1, 1200, .inl p1_bytes))] H → va_D A [(hp0, .inr (2, [.int p0_count, .ref hp0_letters, .ref hp0_lengths, .ref hp0_bytes])), (hp0_letters, .inl (E.1, 4, .inl m7)), (hp0_lengths, .inl (E.1, 4, .inl m9)), (hp0_bytes, .inl (E.1, 240, .inl z10)), (hp1, .inr (0, [.ref hp1_bytes, .int p1_size, .int p1_overflowed])), (hp1_bytes, .inl (E.1, 1200, .inl p1_bytes))] → va_S A s.heap H locs → lv_has ls 5 [(0, .ref hp0), (1, .ref hp1), (2, .int i2), (3, .int i3), (4, .int z11)] → W p l e w_rm_X2_addFrom s m args below meth c H locs 0 0 Q (F0 m 46 ls []) := by
          intro K84 hK84 n
          induction n with
          | zero =>
            intro z10 z11 h
            replace h : (none : Option (Int32 × (Nat → Int32) × (Nat → Int32) × (Nat → Int32))) = some (o0, o1, o2, o3) := h
            cases h
          | succ n ih =>
            intro z10 z11 h H locs ls hP hD hS hl
            replace h : B_X2_addFrom_46 i2 i3 p0_count p1_bytes (fun z10 z11 => L_X2_addFrom_46 i2 i3 p0_count p1_bytes K84 n z10 z11) K84 z10 z11 = some (o0, o1, o2, o3) := h
            obtain ⟨rec46, hrec46⟩ : ∃ f : (Nat → Int32) → Int32 → Option (Int32 × (Nat → Int32) × (Nat → Int32) × (Nat → Int32)), f = (fun z10 z11 => L_X2_addFrom_46 i2 i3 p0_count p1_bytes K84 n z10 z11) := ⟨_, rfl⟩
            rw [← hrec46] at h
            unfold B_X2_addFrom_46 at h
            refine lv_iload hx hb dX2_addFrom_46 (lv_at hl 4 rfl) ?_
            refine lv_iload_n hx hb dX2_addFrom_48 rfl (lv_at hl 3 rfl) ?_
            refine lv_icmp_ge (tgt := 84) hx hb dX2_addFrom_49 (by decide) (fun c12 => ?_) (fun c12 => ?_)
            · replace h := if_t h c12
              exact hK84 z10 z11 h _ _ _ hP hD hS (lv_sub hl [0] rfl)
            · replace h := if_f h c12
              refine lv_aload_n hx hb dX2_addFrom_52 rfl (lv_at hl 0 rfl) ?_
              refine getF (D := G) (ci := 2) (v := .ref hp0_bytes) (C := RX2) (T := TX2) (N := 4) hx hb hts inG_X2 hown hK.1 hP 0 rfl rfl 3 (by decide) tf_X2_3 (hts _ wd_427b6b2a) rfl dX2_addFrom_53 ?_
              refine lv_aload_n hx hb dX2_addFrom_56 rfl (lv_at hl 0 rfl) ?_
              refine getF (D := G) (ci := 2) (v := .int p0_count) (C := RX2) (T := TX2) (N := 4) hx hb hts inG_X2 hown hK.1 hP 0 rfl rfl 0 (by decide) tf_X2_0 (hts _ wd_b6c4e808) rfl dX2_addFrom_57 ?_
              refine lv_bipush (v := 60) hx hb dX2_addFrom_60 (by decide) ?_
              refine lv_imul hx hb dX2_addFrom_62 ?_
              refine lv_iload hx hb dX2_addFrom_63 (lv_at hl 4 rfl) ?_
              refine lv_iadd hx hb dX2_addFrom_65 ?_
              refine lv_aload_n hx hb dX2_addFrom_66 rfl (lv_at hl 1 rfl) ?_
              refine lv_iload_n hx hb dX2_addFrom_67 rfl (lv_at hl 2 rfl) ?_
              refine lv_bipush (v := 8) hx hb dX2_addFrom_68 (by decide) ?_
              refine lv_iadd hx hb dX2_addFrom_70 ?_
              refine lv_iload hx hb dX2_addFrom_71 (lv_at hl 4 rfl) ?_
              refine lv_iadd hx hb dX2_addFrom_73 ?_
              obtain ⟨u13, hu13, h⟩ := bd_t h
              refine cVi (wr := [(hp0, .inr (2, [.int p0_count, .ref hp0_letters, .ref hp0_lengths, .ref hp0_bytes])), (hp0_letters, .inl (E.1, 4, .inl m7)), (hp0_lengths, .inl (E.1, 4, .inl m9)), (hp0_bytes, .inl (E.1, 240, .inl z10))]) (As := [.int ((i2 + (8 : Int32)) + z11)]) (rest := [.int ((p0_count * (60 : Int32)) + z11), .ref hp0_bytes]) ⟨hx, hb, hml, hown, hts⟩ (c_X0_byteAt l G E hp1 hp1_bytes p1_size p1_overflowed p1_bytes ((i2 + (8 : Int32)) + z11) u13 hu13) ok_X0_byteAt okv_X0_byteAt wd_bb230bc9 ⟨Nat.le_of_ble_eq_true rfl, Nat.le_of_ble_eq_true rfl⟩ hK hP hD hS hA [4, 5] [0, 1, 2, 3] rfl rfl (by decide) (by decide) (by decide) (va_recv hK.1 hP (ci := 0) (q0 := 4) rfl rfl) rfl hl.1 rfl (Nat.le_of_ble_eq_true rfl) dX2_addFrom_74 ⟨Nat.le_of_ble_eq_true rfl, Nat.le_of_ble_eq_true rfl⟩ (fun H locs a14 hP hD hS => ?_)
              have hP : va_P G vwCl [(hp0, .inr (2, [.int p0_count, .ref hp0_letters, .ref hp0_lengths, .ref hp0_bytes])), (hp0_letters, .inl (E.1, 4, .inl m7)), (hp0_lengths, .inl (E.1, 4, .inl m9)), (hp0_bytes, .inl (E.1, 240, .inl z10)), (hp1, .inr (0, [.ref hp1_bytes, .int p1_size, .int p1_overflowed])), (hp1_bytes, .inl (E.1, 1200, .inl p1_bytes))] H := hP
              have hD : va_D A [(hp0, .inr (2, [.int p0_count, .ref hp0_letters, .ref hp0_lengths, .ref hp0_bytes])), (hp0_letters, .inl (E.1, 4, .inl m7)), (hp0_lengths, .inl (E.1, 4, .inl m9)), (hp0_bytes, .inl (E.1, 240, .inl z10)), (hp1, .inr (0, [.ref hp1_bytes, .int p1_size, .int p1_overflowed])), (hp1_bytes, .inl (E.1, 1200, .inl p1_bytes))] := hD
              obtain ⟨g15, h⟩ := gin_t h
              refine va_iast hx hb hK.1 hP hD hS 3 0 rfl rfl g15 dX2_addFrom_77 (fun H locs hP hD hS => ?_)
              have hP : va_P G vwCl [(hp0, .inr (2, [.int p0_count, .ref hp0_letters, .ref hp0_lengths, .ref hp0_bytes])), (hp0_letters, .inl (E.1, 4, .inl m7)), (hp0_lengths, .inl (E.1, 4, .inl m9)), (hp0_bytes, .inl (E.1, 240, .inl (upd z10 ((p0_count * (60 : Int32)) + z11).toNatClampNeg u13))), (hp1, .inr (0, [.ref hp1_bytes, .int p1_size, .int p1_overflowed])), (hp1_bytes, .inl (E.1, 1200, .inl p1_bytes))] H := hP
              have hD : va_D A [(hp0, .inr (2, [.int p0_count, .ref hp0_letters, .ref hp0_lengths, .ref hp0_bytes])), (hp0_letters, .inl (E.1, 4, .inl m7)), (hp0_lengths, .inl (E.1, 4, .inl m9)), (hp0_bytes, .inl (E.1, 240, .inl (upd z10 ((p0_count * (60 : Int32)) + z11).toNatClampNeg u13))), (hp1, .inr (0, [.ref hp1_bytes, .int p1_size, .int p1_overflowed])), (hp1_bytes, .inl (E.1, 1200, .inl p1_bytes))] := hD
              obtain ⟨m16, em16⟩ : ∃ y : Nat → Int32, y = upd z10 ((p0_count * (60 : Int32)) + z11).toNatClampNeg u13 := ⟨_, rfl⟩
              replace h := bn_t h em16
              rw [← em16] at hP hD
              obtain ⟨x17, ex17⟩ : ∃ y : Int32, y = z11 + 1 := ⟨_, rfl⟩
              replace h := bn_t h ex17
              refine lv_iinc (v := x17) (lv' := [(4, .int x17), (0, .ref hp0), (1, .ref hp1), (2, .int i2), (3, .int i3)]) hx hb dX2_addFrom_78 hl (k := 4) rfl (by rw [ex17]; rfl) (by decide) rfl (fun ls hl => ?_)
              refine lv_goto (tgt := 46) hx hb dX2_addFrom_81 (by decide) ?_
              exact ih m16 x17 (by rw [hrec46] at h; exact h) _ _ _ hP hD hS (lv_sub hl [1, 2, 3, 4, 0] rfl)
        refine hL46 _ (fun z10 z11 h H locs ls hP hD hS hl => ?_) N p0_bytes (0 : Int32) h _ _ _ hP hD hS (lv_sub hl [1, 2, 3, 4, 0] rfl)
        try dsimp only at h
        refine lv_aload_n hx hb dX2_addFrom_84 rfl (lv_at hl 0 rfl) ?_
        refine lv_dup hx hb dX2_addFrom_85 rfl ?_
        refine getF (D := G) (ci := 2) (v := .int p0_count) (C := RX2) (T := TX2) (N := 4) hx hb hts inG_X2 hown hK.1 hP 0 rfl rfl 0 (by decide) tf_X2_0 (hts _ wd_b6c4e808) rfl dX2_addFrom_86 ?_
        refine lv_iconst (v := 1) hx hb dX2_addFrom_89 (by decide) ?_
        refine lv_iadd hx hb dX2_addFrom_90 ?_
        refine lv_topi (fun x18 ex18 => ?_)
        replace h := bn_t h ex18
        refine putF (D := G) (ci := 2) (v := .int x18) (ty := .int) (C := RX2) (T := TX2) (N := 4) hx hb hts inG_X2 tyX2 tyX2_ok nmX2 hown hK.1 hP hD hS 0 rfl rfl 0 (by decide) tf_X2_0 (hts _ wd_b6c4e808) pd_I rfl rfl (Nat.le_of_ble_eq_true rfl) dX2_addFrom_91 (fun H locs hP hD hS => ?_)
        have hP : va_P G vwCl [(hp0, .inr (2, [.int x18, .ref hp0_letters, .ref hp0_lengths, .ref hp0_bytes])), (hp0_letters, .inl (E.1, 4, .inl m7)), (hp0_lengths, .inl (E.1, 4, .inl m9)), (hp0_bytes, .inl (E.1, 240, .inl z10)), (hp1, .inr (0, [.ref hp1_bytes, .int p1_size, .int p1_overflowed])), (hp1_bytes, .inl (E.1, 1200, .inl p1_bytes))] H := hP
        have hD : va_D A [(hp0, .inr (2, [.int x18, .ref hp0_letters, .ref hp0_lengths, .ref hp0_bytes])), (hp0_letters, .inl (E.1, 4, .inl m7)), (hp0_lengths, .inl (E.1, 4, .inl m9)), (hp0_bytes, .inl (E.1, 240, .inl z10)), (hp1, .inr (0, [.ref hp1_bytes, .int p1_size, .int p1_overflowed])), (hp1_bytes, .inl (E.1, 1200, .inl p1_bytes))] := hD
        exact ret (x18, m7, m9, z10) (Option.some.inj h) _ _ _ _ (fun _ => 0) (hP.sub [0, 4, 5, 1, 2, 3] rfl) (hD.sub [0, 4, 5, 1, 2, 3] (by decide) rfl) hS dX2_addFrom_94
      · replace h := if_f h c3
        exact ret (p0_count, p0_letters, p0_lengths, p0_bytes) (Option.some.inj h) _ _ _ _ (fun _ => 0) hP hD hS dX2_addFrom_18
def B_X2_bytesInAll_4 (p0_count : Int32) (p0_lengths : (Nat → Int32)) (rec4 : Int32 → Int32 → Option (Int32)) (K27 : Int32 → Int32 → Option (Int32)) (z1 : Int32) (z2 : Int32) : Option (Int32) :=
  if p0_count ≤ z2 then (
  K27 z1 z2)
  else
  gin z2 4 <|
  bn (z1 + (p0_lengths z2.toNatClampNeg)) fun x5 =>
  bn (z2 + 1) fun x6 =>
  rec4 x5 x6
def L_X2_bytesInAll_4 (p0_count : Int32) (p0_lengths : (Nat → Int32)) (K27 : Int32 → Int32 → Option (Int32)) : Nat → Int32 → Int32 → Option (Int32)
    | 0, _, _ => none
    | n + 1, z1, z2 => B_X2_bytesInAll_4 p0_count p0_lengths (fun z1 z2 => L_X2_bytesInAll_4 p0_count p0_lengths K27 n z1 z2) K27 z1 z2
def f_X2_bytesInAll (N : Nat) (p0_count : Int32) (p0_lengths : (Nat → Int32)) : Option (Int32) :=
  L_X2_bytesInAll_4 p0_count p0_lengths 
  (fun z1 z2 =>
  some (z1)) N (0 : Int32) (0 : Int32)
abbrev w_rm_X2_bytesInAll : Room := { frames := 0, cells := 0, slots := 0, locals := 0 }
set_option maxHeartbeats 4000000 in
set_option maxRecDepth 100000 in
theorem c_X2_bytesInAll (l : Launch) (G : va_G) (E : ClassId × ClassId × ClassId) (N : Nat) (hp0 : Nat) (p0_count : Int32) (hp0_letters : Nat) (hp0_lengths : Nat) (hp0_bytes : Nat) (p0_lengths : (Nat → Int32)) (r : Int32) (h : f_X2_bytesInAll N p0_count p0_lengths = some (r)) : MI l G E yX2_bytesInAll cX2_bytesInAll 3 .int w_rm_X2_bytesInAll [.ref hp0] [(hp0, .inr (2, [.int p0_count, .ref hp0_letters, .ref hp0_lengths, .ref hp0_bytes])), (hp0_lengths, .inl (E.1, 4, .inl p0_lengths))] r (fun a => [(hp0, .inr (2, [.int p0_count, .ref hp0_letters, .ref hp0_lengths, .ref hp0_bytes])), (hp0_lengths, .inl (E.1, 4, .inl p0_lengths))]) 0 0 := by
  refine MI_of (by decide) (Nat.le_of_ble_eq_true rfl) ?_
  intro p e s m args below meth c A Q hx hb hml hown hts hK hA hP hD hS ret ls hl
  replace ret : ∀ (R : (Int32)), R = (r) → ∀ (H : Heap) (locs : List Loc) (pc : Nat) (ls : Array Slot) (v : Int32) (a : Nat → Nat), v = R → narrow .int (.int v) = .int v → va_P G vwCl [(hp0, .inr (2, [.int p0_count, .ref hp0_letters, .ref hp0_lengths, .ref hp0_bytes])), (hp0_lengths, .inl (E.1, 4, .inl p0_lengths))] H → va_D A [(hp0, .inr (2, [.int p0_count, .ref hp0_letters, .ref hp0_lengths, .ref hp0_bytes])), (hp0_lengths, .inl (E.1, 4, .inl p0_lengths))] → va_S A s.heap H locs → decode cX2_bytesInAll pc = .ok (.ireturn, 1) → W p l e w_rm_X2_bytesInAll s m args below meth c H locs 0 0 Q (F0 m pc ls [.int v]) := by
    intro R hR
    subst hR
    exact ret
  replace hl : lv_has ls 3 [(0, .ref hp0)] := hl
  unfold f_X2_bytesInAll at h
  refine lv_iconst (v := 0) hx hb dX2_bytesInAll_0 (by decide) ?_
  refine lv_istore_n (lv' := [(1, .int (0 : Int32)), (0, .ref hp0)]) hx hb dX2_bytesInAll_1 rfl hl (by decide) rfl (fun ls hl => ?_)
  refine lv_iconst (v := 0) hx hb dX2_bytesInAll_2 (by decide) ?_
  refine lv_istore_n (lv' := [(2, .int (0 : Int32)), (1, .int (0 : Int32)), (0, .ref hp0)]) hx hb dX2_bytesInAll_3 rfl hl (by decide) rfl (fun ls hl => ?_)
  have hL4 : ∀ (K27 : Int32 → Int32 → Option (Int32)), (∀ (z1 : Int32) (z2 : Int32), K27 z1 z2 = some (r) → ∀ (H : Heap) (locs : List Loc) (ls : Array Slot), va_P G vwCl [(hp0, .inr (2, [.int p0_count, .ref hp0_letters, .ref hp0_lengths, .ref hp0_bytes])), (hp0_lengths, .inl (E.1, 4, .inl p0_lengths))] H → va_D A [(hp0, .inr (2, [.int p0_count, .ref hp0_letters, .ref hp0_lengths, .ref hp0_bytes])), (hp0_lengths, .inl (E.1, 4, .inl p0_lengths))] → va_S A s.heap H locs → lv_has ls 3 [(1, .int z1)] → W p l e w_rm_X2_bytesInAll s m args below meth c H locs 0 0 Q (F0 m 27 ls [])) → ∀ (n : Nat) (z1 : Int32) (z2 : Int32), L_X2_bytesInAll_4 p0_count p0_lengths K27 n z1 z2 = some (r) → ∀ (H : Heap) (locs : List Loc) (ls : Array Slot), va_P G vwCl [(hp0, .inr (2, [.int p0_count, .ref hp0_letters, .ref hp0_lengths, .ref hp0_bytes])), (hp0_lengths, .inl (E.1, 4, .inl p0_lengths))] H → va_D A [(hp0, .inr (2, [.int p0_count, .ref hp0_letters, .ref hp0_lengths, .ref hp0_bytes])), (hp0_lengths, .inl (E.1, 4, .inl p0_lengths))] → va_S A s.heap H locs → lv_has ls 3 [(0, .ref hp0), (1, .int z1), (2, .int z2)] → W p l e w_rm_X2_bytesInAll s m args below meth c H locs 0 0 Q (F0 m 4 ls []) := by
    intro K27 hK27 n
    induction n with
    | zero =>
      intro z1 z2 h
      replace h : (none : Option (Int32)) = some (r) := h
      cases h
    | succ n ih =>
      intro z1 z2 h H locs ls hP hD hS hl
      replace h : B_X2_bytesInAll_4 p0_count p0_lengths (fun z1 z2 => L_X2_bytesInAll_4 p0_count p0_lengths K27 n z1 z2) K27 z1 z2 = some (r) := h
      obtain ⟨rec4, hrec4⟩ : ∃ f : Int32 → Int32 → Option (Int32), f = (fun z1 z2 => L_X2_bytesInAll_4 p0_count p0_lengths K27 n z1 z2) := ⟨_, rfl⟩
      rw [← hrec4] at h
      unfold B_X2_bytesInAll_4 at h
      refine lv_iload_n hx hb dX2_bytesInAll_4 rfl (lv_at hl 2 rfl) ?_
      refine lv_aload_n hx hb dX2_bytesInAll_5 rfl (lv_at hl 0 rfl) ?_
      refine getF (D := G) (ci := 2) (v := .int p0_count) (C := RX2) (T := TX2) (N := 4) hx hb hts inG_X2 hown hK.1 hP 0 rfl rfl 0 (by decide) tf_X2_0 (hts _ wd_b6c4e808) rfl dX2_bytesInAll_6 ?_
      refine lv_icmp_ge (tgt := 27) hx hb dX2_bytesInAll_9 (by decide) (fun c3 => ?_) (fun c3 => ?_)
      · replace h := if_t h c3
        exact hK27 z1 z2 h _ _ _ hP hD hS (lv_sub hl [1] rfl)
      · replace h := if_f h c3
        refine lv_iload_n hx hb dX2_bytesInAll_12 rfl (lv_at hl 1 rfl) ?_
        refine lv_aload_n hx hb dX2_bytesInAll_13 rfl (lv_at hl 0 rfl) ?_
        refine getF (D := G) (ci := 2) (v := .ref hp0_lengths) (C := RX2) (T := TX2) (N := 4) hx hb hts inG_X2 hown hK.1 hP 0 rfl rfl 2 (by decide) tf_X2_2 (hts _ wd_326ba59e) rfl dX2_bytesInAll_14 ?_
        refine lv_iload_n hx hb dX2_bytesInAll_17 rfl (lv_at hl 2 rfl) ?_
        obtain ⟨g4, h⟩ := gin_t h
        refine va_iald hx hb hK.1 hP 1 0 rfl rfl g4 dX2_bytesInAll_18 ?_
        refine lv_iadd hx hb dX2_bytesInAll_19 ?_
        refine lv_topi (fun x5 ex5 => ?_)
        replace h := bn_t h ex5
        refine lv_istore_n (lv' := [(1, .int x5), (0, .ref hp0), (2, .int z2)]) hx hb dX2_bytesInAll_20 rfl hl (by decide) rfl (fun ls hl => ?_)
        obtain ⟨x6, ex6⟩ : ∃ y : Int32, y = z2 + 1 := ⟨_, rfl⟩
        replace h := bn_t h ex6
        refine lv_iinc (v := x6) (lv' := [(2, .int x6), (1, .int x5), (0, .ref hp0)]) hx hb dX2_bytesInAll_21 hl (k := 2) rfl (by rw [ex6]; rfl) (by decide) rfl (fun ls hl => ?_)
        refine lv_goto (tgt := 4) hx hb dX2_bytesInAll_24 (by decide) ?_
        exact ih x5 x6 (by rw [hrec4] at h; exact h) _ _ _ hP hD hS (lv_sub hl [2, 1, 0] rfl)
  refine hL4 _ (fun z1 z2 h H locs ls hP hD hS hl => ?_) N (0 : Int32) (0 : Int32) h _ _ _ hP hD hS (lv_sub hl [2, 1, 0] rfl)
  try dsimp only at h
  refine lv_iload_n hx hb dX2_bytesInAll_27 rfl (lv_at hl 0 rfl) ?_
  exact ret (z1) (Option.some.inj h) _ _ _ _ _ (fun _ => 0) rfl rfl hP hD hS dX2_bytesInAll_28
