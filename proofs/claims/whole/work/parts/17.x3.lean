def f_X3_init  : Option Unit :=
  bd (f_X1_init) fun u2 =>
  bd (f_X2_init) fun u5 =>
  some ()
abbrev w_rm_X3_init : Room := { frames := 2, cells := 9, slots := 827, locals := 33 }
set_option maxHeartbeats 4000000 in
set_option maxRecDepth 100000 in
theorem c_X3_init (l : Launch) (G : va_G) (E : ClassId × ClassId × ClassId) (hp0 : Nat) (hp1 : Nat)  (h : f_X3_init = some ()) : MV l G E yX3_init cX3_init 2 w_rm_X3_init [.ref hp0, .ref hp1] [(hp0, .inr (3, [.null, .null, .null, .int (0 : Int32), .int (0 : Int32), .int (0 : Int32), .int (0 : Int32), .int (0 : Int32), .int (0 : Int32), .int (0 : Int32)]))] (fun a => [(hp0, .inr (3, [.ref hp1, .ref (a 0), .ref (a 5), .int (0 : Int32), .int (0 : Int32), .int (0 : Int32), .int (0 : Int32), .int (0 : Int32), .int (0 : Int32), .int (0 : Int32)])), ((a 0), .inr (1, [.ref (a 1), .int (0 : Int32), .ref (a 2), .int (0 : Int32), .ref (a 3), .ref (a 4), .int (0 : Int32)])), ((a 1), .inl (E.1, 512, .inl (fun _ => 0))), ((a 2), .inl (E.1, 40, .inl (fun _ => 0))), ((a 3), .inl (E.1, 8, .inl (fun _ => 0))), ((a 4), .inl (E.1, 8, .inl (fun _ => 0))), ((a 5), .inr (2, [.int (0 : Int32), .ref (a 6), .ref (a 7), .ref (a 8)])), ((a 6), .inl (E.1, 4, .inl (fun _ => 0))), ((a 7), .inl (E.1, 4, .inl (fun _ => 0))), ((a 8), .inl (E.1, 240, .inl (fun _ => 0)))]) 9 827 := by
  refine MV_of (by decide) (Nat.le_of_ble_eq_true rfl) ?_
  intro p e s m args below meth c A Q hx hb hml hown hin hts hK hA hP hD hS ret ls hl
  replace hin := hin rfl
  replace hl : lv_has ls 2 [(0, .ref hp0), (1, .ref hp1)] := hl
  unfold f_X3_init at h
  refine lv_aload_n hx hb dX3_init_0 rfl (lv_at hl 0 rfl) ?_
  refine W.objInit hx hb hown (hts _ wd_9b9964c5) (hts _ wd_449f795d) (hts _ wd_679af842) rfl (by rw [hml]; exact hl.1) rfl dX3_init_1 (Nat.le_of_ble_eq_true rfl) (Nat.le_of_ble_eq_true rfl) ?_
  refine W.eq (g2 := F0 m 4 ls []) rfl ?_
  refine lv_aload_n hx hb dX3_init_4 rfl (lv_at hl 0 rfl) ?_
  refine va_new (ci := 1) (fs := [.null, .int (0 : Int32), .null, .int (0 : Int32), .null, .null, .int (0 : Int32)]) (C := RX1) (T := TX1) (N := 7) hx hb hts inG_X1 tyX1 tyX1_ok hown (hts _ wd_2fece980) (hts _ wd_643a6993) (hts _ wd_944cf9c3) hK.1 hP hD hS hA rfl (by decide +kernel) (Nat.le_of_ble_eq_true rfl) (Nat.le_of_ble_eq_true rfl) dX3_init_5 (fun q1 H hP hD hS => ?_)
  have hP : va_P G vwCl [(hp0, .inr (3, [.null, .null, .null, .int (0 : Int32), .int (0 : Int32), .int (0 : Int32), .int (0 : Int32), .int (0 : Int32), .int (0 : Int32), .int (0 : Int32)])), (q1, .inr (1, [.null, .int (0 : Int32), .null, .int (0 : Int32), .null, .null, .int (0 : Int32)]))] H := hP
  have hD : va_D A [(hp0, .inr (3, [.null, .null, .null, .int (0 : Int32), .int (0 : Int32), .int (0 : Int32), .int (0 : Int32), .int (0 : Int32), .int (0 : Int32), .int (0 : Int32)])), (q1, .inr (1, [.null, .int (0 : Int32), .null, .int (0 : Int32), .null, .null, .int (0 : Int32)]))] := hD
  refine lv_dup hx hb dX3_init_8 rfl ?_
  obtain ⟨u2, hu2, h⟩ := bd_t h
  refine cINv (wr := [(hp0, .inr (3, [.null, .null, .null, .int (0 : Int32), .int (0 : Int32), .int (0 : Int32), .int (0 : Int32), .int (0 : Int32), .int (0 : Int32), .int (0 : Int32)]))]) (As := []) (rest := [.ref q1, .ref hp0]) ⟨hx, hb, hml, hown, hts⟩ (c_X1_init l G E q1 hu2) ok_X1_init oki_X1_init (hK.2.1 (.methodLinkNest RX3 11 yX1_init "GlulxSaves") (by decide +kernel)) ⟨Nat.le_of_ble_eq_true rfl, Nat.le_of_ble_eq_true rfl⟩ hK hP hD hS hA [1] [0] rfl rfl (by decide) (by decide) (by decide) rfl hl.1 rfl (Nat.le_of_ble_eq_true rfl) dX3_init_9 ⟨Nat.le_of_ble_eq_true rfl, Nat.le_of_ble_eq_true rfl⟩ (fun H locs a3 hP hD hS => ?_)
  have hP : va_P G vwCl [(hp0, .inr (3, [.null, .null, .null, .int (0 : Int32), .int (0 : Int32), .int (0 : Int32), .int (0 : Int32), .int (0 : Int32), .int (0 : Int32), .int (0 : Int32)])), (q1, .inr (1, [.ref (a3 0), .int (0 : Int32), .ref (a3 1), .int (0 : Int32), .ref (a3 2), .ref (a3 3), .int (0 : Int32)])), ((a3 0), .inl (E.1, 512, .inl (fun _ => 0))), ((a3 1), .inl (E.1, 40, .inl (fun _ => 0))), ((a3 2), .inl (E.1, 8, .inl (fun _ => 0))), ((a3 3), .inl (E.1, 8, .inl (fun _ => 0)))] H := hP
  have hD : va_D A [(hp0, .inr (3, [.null, .null, .null, .int (0 : Int32), .int (0 : Int32), .int (0 : Int32), .int (0 : Int32), .int (0 : Int32), .int (0 : Int32), .int (0 : Int32)])), (q1, .inr (1, [.ref (a3 0), .int (0 : Int32), .ref (a3 1), .int (0 : Int32), .ref (a3 2), .ref (a3 3), .int (0 : Int32)])), ((a3 0), .inl (E.1, 512, .inl (fun _ => 0))), ((a3 1), .inl (E.1, 40, .inl (fun _ => 0))), ((a3 2), .inl (E.1, 8, .inl (fun _ => 0))), ((a3 3), .inl (E.1, 8, .inl (fun _ => 0)))] := hD
  refine putFF (D := G) (ci := 3) (v := .ref q1) (ty := .object "GlulxSaves$Machine") (C := RX3) (T := TX3) (N := 10) hx hb hts inG_X3 tyX3 tyX3_ok nmX3 hown hK.1 hP hD hS 0 rfl rfl 1 (by decide) tf_X3_1 (hts _ wd_4f086646) hin (by decide +kernel) rfl rfl (Nat.le_of_ble_eq_true rfl) dX3_init_12 (fun H locs hP hD hS => ?_)
  have hP : va_P G vwCl [(hp0, .inr (3, [.null, .ref q1, .null, .int (0 : Int32), .int (0 : Int32), .int (0 : Int32), .int (0 : Int32), .int (0 : Int32), .int (0 : Int32), .int (0 : Int32)])), (q1, .inr (1, [.ref (a3 0), .int (0 : Int32), .ref (a3 1), .int (0 : Int32), .ref (a3 2), .ref (a3 3), .int (0 : Int32)])), ((a3 0), .inl (E.1, 512, .inl (fun _ => 0))), ((a3 1), .inl (E.1, 40, .inl (fun _ => 0))), ((a3 2), .inl (E.1, 8, .inl (fun _ => 0))), ((a3 3), .inl (E.1, 8, .inl (fun _ => 0)))] H := hP
  have hD : va_D A [(hp0, .inr (3, [.null, .ref q1, .null, .int (0 : Int32), .int (0 : Int32), .int (0 : Int32), .int (0 : Int32), .int (0 : Int32), .int (0 : Int32), .int (0 : Int32)])), (q1, .inr (1, [.ref (a3 0), .int (0 : Int32), .ref (a3 1), .int (0 : Int32), .ref (a3 2), .ref (a3 3), .int (0 : Int32)])), ((a3 0), .inl (E.1, 512, .inl (fun _ => 0))), ((a3 1), .inl (E.1, 40, .inl (fun _ => 0))), ((a3 2), .inl (E.1, 8, .inl (fun _ => 0))), ((a3 3), .inl (E.1, 8, .inl (fun _ => 0)))] := hD
  refine lv_aload_n hx hb dX3_init_15 rfl (lv_at hl 0 rfl) ?_
  refine va_new (ci := 2) (fs := [.int (0 : Int32), .null, .null, .null]) (C := RX2) (T := TX2) (N := 4) hx hb hts inG_X2 tyX2 tyX2_ok hown (hts _ wd_f4ccfa15) (hts _ wd_779689bb) (hts _ wd_79af3f40) hK.1 hP hD hS hA rfl (by decide +kernel) (Nat.le_of_ble_eq_true rfl) (Nat.le_of_ble_eq_true rfl) dX3_init_16 (fun q4 H hP hD hS => ?_)
  have hP : va_P G vwCl [(hp0, .inr (3, [.null, .ref q1, .null, .int (0 : Int32), .int (0 : Int32), .int (0 : Int32), .int (0 : Int32), .int (0 : Int32), .int (0 : Int32), .int (0 : Int32)])), (q1, .inr (1, [.ref (a3 0), .int (0 : Int32), .ref (a3 1), .int (0 : Int32), .ref (a3 2), .ref (a3 3), .int (0 : Int32)])), ((a3 0), .inl (E.1, 512, .inl (fun _ => 0))), ((a3 1), .inl (E.1, 40, .inl (fun _ => 0))), ((a3 2), .inl (E.1, 8, .inl (fun _ => 0))), ((a3 3), .inl (E.1, 8, .inl (fun _ => 0))), (q4, .inr (2, [.int (0 : Int32), .null, .null, .null]))] H := hP
  have hD : va_D A [(hp0, .inr (3, [.null, .ref q1, .null, .int (0 : Int32), .int (0 : Int32), .int (0 : Int32), .int (0 : Int32), .int (0 : Int32), .int (0 : Int32), .int (0 : Int32)])), (q1, .inr (1, [.ref (a3 0), .int (0 : Int32), .ref (a3 1), .int (0 : Int32), .ref (a3 2), .ref (a3 3), .int (0 : Int32)])), ((a3 0), .inl (E.1, 512, .inl (fun _ => 0))), ((a3 1), .inl (E.1, 40, .inl (fun _ => 0))), ((a3 2), .inl (E.1, 8, .inl (fun _ => 0))), ((a3 3), .inl (E.1, 8, .inl (fun _ => 0))), (q4, .inr (2, [.int (0 : Int32), .null, .null, .null]))] := hD
  refine lv_dup hx hb dX3_init_19 rfl ?_
  obtain ⟨u5, hu5, h⟩ := bd_t h
  refine cINv (wr := [(hp0, .inr (3, [.null, .ref q1, .null, .int (0 : Int32), .int (0 : Int32), .int (0 : Int32), .int (0 : Int32), .int (0 : Int32), .int (0 : Int32), .int (0 : Int32)])), (q1, .inr (1, [.ref (a3 0), .int (0 : Int32), .ref (a3 1), .int (0 : Int32), .ref (a3 2), .ref (a3 3), .int (0 : Int32)])), ((a3 0), .inl (E.1, 512, .inl (fun _ => 0))), ((a3 1), .inl (E.1, 40, .inl (fun _ => 0))), ((a3 2), .inl (E.1, 8, .inl (fun _ => 0))), ((a3 3), .inl (E.1, 8, .inl (fun _ => 0)))]) (As := []) (rest := [.ref q4, .ref hp0]) ⟨hx, hb, hml, hown, hts⟩ (c_X2_init l G E q4 hu5) ok_X2_init oki_X2_init (hK.2.1 (.methodLinkNest RX3 20 yX2_init "GlulxSaves") (by decide +kernel)) ⟨Nat.le_of_ble_eq_true rfl, Nat.le_of_ble_eq_true rfl⟩ hK hP hD hS hA [6] [0, 1, 2, 3, 4, 5] rfl rfl (by decide) (by decide) (by decide) rfl hl.1 rfl (Nat.le_of_ble_eq_true rfl) dX3_init_20 ⟨Nat.le_of_ble_eq_true rfl, Nat.le_of_ble_eq_true rfl⟩ (fun H locs a6 hP hD hS => ?_)
  have hP : va_P G vwCl [(hp0, .inr (3, [.null, .ref q1, .null, .int (0 : Int32), .int (0 : Int32), .int (0 : Int32), .int (0 : Int32), .int (0 : Int32), .int (0 : Int32), .int (0 : Int32)])), (q1, .inr (1, [.ref (a3 0), .int (0 : Int32), .ref (a3 1), .int (0 : Int32), .ref (a3 2), .ref (a3 3), .int (0 : Int32)])), ((a3 0), .inl (E.1, 512, .inl (fun _ => 0))), ((a3 1), .inl (E.1, 40, .inl (fun _ => 0))), ((a3 2), .inl (E.1, 8, .inl (fun _ => 0))), ((a3 3), .inl (E.1, 8, .inl (fun _ => 0))), (q4, .inr (2, [.int (0 : Int32), .ref (a6 0), .ref (a6 1), .ref (a6 2)])), ((a6 0), .inl (E.1, 4, .inl (fun _ => 0))), ((a6 1), .inl (E.1, 4, .inl (fun _ => 0))), ((a6 2), .inl (E.1, 240, .inl (fun _ => 0)))] H := hP
  have hD : va_D A [(hp0, .inr (3, [.null, .ref q1, .null, .int (0 : Int32), .int (0 : Int32), .int (0 : Int32), .int (0 : Int32), .int (0 : Int32), .int (0 : Int32), .int (0 : Int32)])), (q1, .inr (1, [.ref (a3 0), .int (0 : Int32), .ref (a3 1), .int (0 : Int32), .ref (a3 2), .ref (a3 3), .int (0 : Int32)])), ((a3 0), .inl (E.1, 512, .inl (fun _ => 0))), ((a3 1), .inl (E.1, 40, .inl (fun _ => 0))), ((a3 2), .inl (E.1, 8, .inl (fun _ => 0))), ((a3 3), .inl (E.1, 8, .inl (fun _ => 0))), (q4, .inr (2, [.int (0 : Int32), .ref (a6 0), .ref (a6 1), .ref (a6 2)])), ((a6 0), .inl (E.1, 4, .inl (fun _ => 0))), ((a6 1), .inl (E.1, 4, .inl (fun _ => 0))), ((a6 2), .inl (E.1, 240, .inl (fun _ => 0)))] := hD
  refine putFF (D := G) (ci := 3) (v := .ref q4) (ty := .object "GlulxSaves$Others") (C := RX3) (T := TX3) (N := 10) hx hb hts inG_X3 tyX3 tyX3_ok nmX3 hown hK.1 hP hD hS 0 rfl rfl 2 (by decide) tf_X3_2 (hts _ wd_f439a22a) hin (by decide +kernel) rfl rfl (Nat.le_of_ble_eq_true rfl) dX3_init_23 (fun H locs hP hD hS => ?_)
  have hP : va_P G vwCl [(hp0, .inr (3, [.null, .ref q1, .ref q4, .int (0 : Int32), .int (0 : Int32), .int (0 : Int32), .int (0 : Int32), .int (0 : Int32), .int (0 : Int32), .int (0 : Int32)])), (q1, .inr (1, [.ref (a3 0), .int (0 : Int32), .ref (a3 1), .int (0 : Int32), .ref (a3 2), .ref (a3 3), .int (0 : Int32)])), ((a3 0), .inl (E.1, 512, .inl (fun _ => 0))), ((a3 1), .inl (E.1, 40, .inl (fun _ => 0))), ((a3 2), .inl (E.1, 8, .inl (fun _ => 0))), ((a3 3), .inl (E.1, 8, .inl (fun _ => 0))), (q4, .inr (2, [.int (0 : Int32), .ref (a6 0), .ref (a6 1), .ref (a6 2)])), ((a6 0), .inl (E.1, 4, .inl (fun _ => 0))), ((a6 1), .inl (E.1, 4, .inl (fun _ => 0))), ((a6 2), .inl (E.1, 240, .inl (fun _ => 0)))] H := hP
  have hD : va_D A [(hp0, .inr (3, [.null, .ref q1, .ref q4, .int (0 : Int32), .int (0 : Int32), .int (0 : Int32), .int (0 : Int32), .int (0 : Int32), .int (0 : Int32), .int (0 : Int32)])), (q1, .inr (1, [.ref (a3 0), .int (0 : Int32), .ref (a3 1), .int (0 : Int32), .ref (a3 2), .ref (a3 3), .int (0 : Int32)])), ((a3 0), .inl (E.1, 512, .inl (fun _ => 0))), ((a3 1), .inl (E.1, 40, .inl (fun _ => 0))), ((a3 2), .inl (E.1, 8, .inl (fun _ => 0))), ((a3 3), .inl (E.1, 8, .inl (fun _ => 0))), (q4, .inr (2, [.int (0 : Int32), .ref (a6 0), .ref (a6 1), .ref (a6 2)])), ((a6 0), .inl (E.1, 4, .inl (fun _ => 0))), ((a6 1), .inl (E.1, 4, .inl (fun _ => 0))), ((a6 2), .inl (E.1, 240, .inl (fun _ => 0)))] := hD
  refine lv_aload_n hx hb dX3_init_26 rfl (lv_at hl 0 rfl) ?_
  refine lv_iconst (v := 0) hx hb dX3_init_27 (by decide) ?_
  refine putF (D := G) (ci := 3) (v := .int (0 : Int32)) (ty := .int) (C := RX3) (T := TX3) (N := 10) hx hb hts inG_X3 tyX3 tyX3_ok nmX3 hown hK.1 hP hD hS 0 rfl rfl 3 (by decide) tf_X3_3 (hts _ wd_101176e0) pd_I rfl rfl (Nat.le_of_ble_eq_true rfl) dX3_init_28 (fun H locs hP hD hS => ?_)
  have hP : va_P G vwCl [(hp0, .inr (3, [.null, .ref q1, .ref q4, .int (0 : Int32), .int (0 : Int32), .int (0 : Int32), .int (0 : Int32), .int (0 : Int32), .int (0 : Int32), .int (0 : Int32)])), (q1, .inr (1, [.ref (a3 0), .int (0 : Int32), .ref (a3 1), .int (0 : Int32), .ref (a3 2), .ref (a3 3), .int (0 : Int32)])), ((a3 0), .inl (E.1, 512, .inl (fun _ => 0))), ((a3 1), .inl (E.1, 40, .inl (fun _ => 0))), ((a3 2), .inl (E.1, 8, .inl (fun _ => 0))), ((a3 3), .inl (E.1, 8, .inl (fun _ => 0))), (q4, .inr (2, [.int (0 : Int32), .ref (a6 0), .ref (a6 1), .ref (a6 2)])), ((a6 0), .inl (E.1, 4, .inl (fun _ => 0))), ((a6 1), .inl (E.1, 4, .inl (fun _ => 0))), ((a6 2), .inl (E.1, 240, .inl (fun _ => 0)))] H := hP
  have hD : va_D A [(hp0, .inr (3, [.null, .ref q1, .ref q4, .int (0 : Int32), .int (0 : Int32), .int (0 : Int32), .int (0 : Int32), .int (0 : Int32), .int (0 : Int32), .int (0 : Int32)])), (q1, .inr (1, [.ref (a3 0), .int (0 : Int32), .ref (a3 1), .int (0 : Int32), .ref (a3 2), .ref (a3 3), .int (0 : Int32)])), ((a3 0), .inl (E.1, 512, .inl (fun _ => 0))), ((a3 1), .inl (E.1, 40, .inl (fun _ => 0))), ((a3 2), .inl (E.1, 8, .inl (fun _ => 0))), ((a3 3), .inl (E.1, 8, .inl (fun _ => 0))), (q4, .inr (2, [.int (0 : Int32), .ref (a6 0), .ref (a6 1), .ref (a6 2)])), ((a6 0), .inl (E.1, 4, .inl (fun _ => 0))), ((a6 1), .inl (E.1, 4, .inl (fun _ => 0))), ((a6 2), .inl (E.1, 240, .inl (fun _ => 0)))] := hD
  refine lv_aload_n hx hb dX3_init_31 rfl (lv_at hl 0 rfl) ?_
  refine lv_iconst (v := 0) hx hb dX3_init_32 (by decide) ?_
  refine putF (D := G) (ci := 3) (v := .int (0 : Int32)) (ty := .int) (C := RX3) (T := TX3) (N := 10) hx hb hts inG_X3 tyX3 tyX3_ok nmX3 hown hK.1 hP hD hS 0 rfl rfl 4 (by decide) tf_X3_4 (hts _ wd_54867c0d) pd_I rfl rfl (Nat.le_of_ble_eq_true rfl) dX3_init_33 (fun H locs hP hD hS => ?_)
  have hP : va_P G vwCl [(hp0, .inr (3, [.null, .ref q1, .ref q4, .int (0 : Int32), .int (0 : Int32), .int (0 : Int32), .int (0 : Int32), .int (0 : Int32), .int (0 : Int32), .int (0 : Int32)])), (q1, .inr (1, [.ref (a3 0), .int (0 : Int32), .ref (a3 1), .int (0 : Int32), .ref (a3 2), .ref (a3 3), .int (0 : Int32)])), ((a3 0), .inl (E.1, 512, .inl (fun _ => 0))), ((a3 1), .inl (E.1, 40, .inl (fun _ => 0))), ((a3 2), .inl (E.1, 8, .inl (fun _ => 0))), ((a3 3), .inl (E.1, 8, .inl (fun _ => 0))), (q4, .inr (2, [.int (0 : Int32), .ref (a6 0), .ref (a6 1), .ref (a6 2)])), ((a6 0), .inl (E.1, 4, .inl (fun _ => 0))), ((a6 1), .inl (E.1, 4, .inl (fun _ => 0))), ((a6 2), .inl (E.1, 240, .inl (fun _ => 0)))] H := hP
  have hD : va_D A [(hp0, .inr (3, [.null, .ref q1, .ref q4, .int (0 : Int32), .int (0 : Int32), .int (0 : Int32), .int (0 : Int32), .int (0 : Int32), .int (0 : Int32), .int (0 : Int32)])), (q1, .inr (1, [.ref (a3 0), .int (0 : Int32), .ref (a3 1), .int (0 : Int32), .ref (a3 2), .ref (a3 3), .int (0 : Int32)])), ((a3 0), .inl (E.1, 512, .inl (fun _ => 0))), ((a3 1), .inl (E.1, 40, .inl (fun _ => 0))), ((a3 2), .inl (E.1, 8, .inl (fun _ => 0))), ((a3 3), .inl (E.1, 8, .inl (fun _ => 0))), (q4, .inr (2, [.int (0 : Int32), .ref (a6 0), .ref (a6 1), .ref (a6 2)])), ((a6 0), .inl (E.1, 4, .inl (fun _ => 0))), ((a6 1), .inl (E.1, 4, .inl (fun _ => 0))), ((a6 2), .inl (E.1, 240, .inl (fun _ => 0)))] := hD
  refine lv_aload_n hx hb dX3_init_36 rfl (lv_at hl 0 rfl) ?_
  refine lv_iconst (v := 0) hx hb dX3_init_37 (by decide) ?_
  refine putF (D := G) (ci := 3) (v := .int (0 : Int32)) (ty := .int) (C := RX3) (T := TX3) (N := 10) hx hb hts inG_X3 tyX3 tyX3_ok nmX3 hown hK.1 hP hD hS 0 rfl rfl 5 (by decide) tf_X3_5 (hts _ wd_ba30ed8e) pd_I rfl rfl (Nat.le_of_ble_eq_true rfl) dX3_init_38 (fun H locs hP hD hS => ?_)
  have hP : va_P G vwCl [(hp0, .inr (3, [.null, .ref q1, .ref q4, .int (0 : Int32), .int (0 : Int32), .int (0 : Int32), .int (0 : Int32), .int (0 : Int32), .int (0 : Int32), .int (0 : Int32)])), (q1, .inr (1, [.ref (a3 0), .int (0 : Int32), .ref (a3 1), .int (0 : Int32), .ref (a3 2), .ref (a3 3), .int (0 : Int32)])), ((a3 0), .inl (E.1, 512, .inl (fun _ => 0))), ((a3 1), .inl (E.1, 40, .inl (fun _ => 0))), ((a3 2), .inl (E.1, 8, .inl (fun _ => 0))), ((a3 3), .inl (E.1, 8, .inl (fun _ => 0))), (q4, .inr (2, [.int (0 : Int32), .ref (a6 0), .ref (a6 1), .ref (a6 2)])), ((a6 0), .inl (E.1, 4, .inl (fun _ => 0))), ((a6 1), .inl (E.1, 4, .inl (fun _ => 0))), ((a6 2), .inl (E.1, 240, .inl (fun _ => 0)))] H := hP
  have hD : va_D A [(hp0, .inr (3, [.null, .ref q1, .ref q4, .int (0 : Int32), .int (0 : Int32), .int (0 : Int32), .int (0 : Int32), .int (0 : Int32), .int (0 : Int32), .int (0 : Int32)])), (q1, .inr (1, [.ref (a3 0), .int (0 : Int32), .ref (a3 1), .int (0 : Int32), .ref (a3 2), .ref (a3 3), .int (0 : Int32)])), ((a3 0), .inl (E.1, 512, .inl (fun _ => 0))), ((a3 1), .inl (E.1, 40, .inl (fun _ => 0))), ((a3 2), .inl (E.1, 8, .inl (fun _ => 0))), ((a3 3), .inl (E.1, 8, .inl (fun _ => 0))), (q4, .inr (2, [.int (0 : Int32), .ref (a6 0), .ref (a6 1), .ref (a6 2)])), ((a6 0), .inl (E.1, 4, .inl (fun _ => 0))), ((a6 1), .inl (E.1, 4, .inl (fun _ => 0))), ((a6 2), .inl (E.1, 240, .inl (fun _ => 0)))] := hD
  refine lv_aload_n hx hb dX3_init_41 rfl (lv_at hl 0 rfl) ?_
  refine lv_iconst (v := 0) hx hb dX3_init_42 (by decide) ?_
  refine putF (D := G) (ci := 3) (v := .int (0 : Int32)) (ty := .boolean) (C := RX3) (T := TX3) (N := 10) hx hb hts inG_X3 tyX3 tyX3_ok nmX3 hown hK.1 hP hD hS 0 rfl rfl 6 (by decide) tf_X3_6 (hts _ wd_3f712f62) pd_Z rfl rfl (Nat.le_of_ble_eq_true rfl) dX3_init_43 (fun H locs hP hD hS => ?_)
  have hP : va_P G vwCl [(hp0, .inr (3, [.null, .ref q1, .ref q4, .int (0 : Int32), .int (0 : Int32), .int (0 : Int32), .int (0 : Int32), .int (0 : Int32), .int (0 : Int32), .int (0 : Int32)])), (q1, .inr (1, [.ref (a3 0), .int (0 : Int32), .ref (a3 1), .int (0 : Int32), .ref (a3 2), .ref (a3 3), .int (0 : Int32)])), ((a3 0), .inl (E.1, 512, .inl (fun _ => 0))), ((a3 1), .inl (E.1, 40, .inl (fun _ => 0))), ((a3 2), .inl (E.1, 8, .inl (fun _ => 0))), ((a3 3), .inl (E.1, 8, .inl (fun _ => 0))), (q4, .inr (2, [.int (0 : Int32), .ref (a6 0), .ref (a6 1), .ref (a6 2)])), ((a6 0), .inl (E.1, 4, .inl (fun _ => 0))), ((a6 1), .inl (E.1, 4, .inl (fun _ => 0))), ((a6 2), .inl (E.1, 240, .inl (fun _ => 0)))] H := hP
  have hD : va_D A [(hp0, .inr (3, [.null, .ref q1, .ref q4, .int (0 : Int32), .int (0 : Int32), .int (0 : Int32), .int (0 : Int32), .int (0 : Int32), .int (0 : Int32), .int (0 : Int32)])), (q1, .inr (1, [.ref (a3 0), .int (0 : Int32), .ref (a3 1), .int (0 : Int32), .ref (a3 2), .ref (a3 3), .int (0 : Int32)])), ((a3 0), .inl (E.1, 512, .inl (fun _ => 0))), ((a3 1), .inl (E.1, 40, .inl (fun _ => 0))), ((a3 2), .inl (E.1, 8, .inl (fun _ => 0))), ((a3 3), .inl (E.1, 8, .inl (fun _ => 0))), (q4, .inr (2, [.int (0 : Int32), .ref (a6 0), .ref (a6 1), .ref (a6 2)])), ((a6 0), .inl (E.1, 4, .inl (fun _ => 0))), ((a6 1), .inl (E.1, 4, .inl (fun _ => 0))), ((a6 2), .inl (E.1, 240, .inl (fun _ => 0)))] := hD
  refine lv_aload_n hx hb dX3_init_46 rfl (lv_at hl 0 rfl) ?_
  refine lv_iconst (v := 0) hx hb dX3_init_47 (by decide) ?_
  refine putF (D := G) (ci := 3) (v := .int (0 : Int32)) (ty := .boolean) (C := RX3) (T := TX3) (N := 10) hx hb hts inG_X3 tyX3 tyX3_ok nmX3 hown hK.1 hP hD hS 0 rfl rfl 7 (by decide) tf_X3_7 (hts _ wd_fb0e5dcc) pd_Z rfl rfl (Nat.le_of_ble_eq_true rfl) dX3_init_48 (fun H locs hP hD hS => ?_)
  have hP : va_P G vwCl [(hp0, .inr (3, [.null, .ref q1, .ref q4, .int (0 : Int32), .int (0 : Int32), .int (0 : Int32), .int (0 : Int32), .int (0 : Int32), .int (0 : Int32), .int (0 : Int32)])), (q1, .inr (1, [.ref (a3 0), .int (0 : Int32), .ref (a3 1), .int (0 : Int32), .ref (a3 2), .ref (a3 3), .int (0 : Int32)])), ((a3 0), .inl (E.1, 512, .inl (fun _ => 0))), ((a3 1), .inl (E.1, 40, .inl (fun _ => 0))), ((a3 2), .inl (E.1, 8, .inl (fun _ => 0))), ((a3 3), .inl (E.1, 8, .inl (fun _ => 0))), (q4, .inr (2, [.int (0 : Int32), .ref (a6 0), .ref (a6 1), .ref (a6 2)])), ((a6 0), .inl (E.1, 4, .inl (fun _ => 0))), ((a6 1), .inl (E.1, 4, .inl (fun _ => 0))), ((a6 2), .inl (E.1, 240, .inl (fun _ => 0)))] H := hP
  have hD : va_D A [(hp0, .inr (3, [.null, .ref q1, .ref q4, .int (0 : Int32), .int (0 : Int32), .int (0 : Int32), .int (0 : Int32), .int (0 : Int32), .int (0 : Int32), .int (0 : Int32)])), (q1, .inr (1, [.ref (a3 0), .int (0 : Int32), .ref (a3 1), .int (0 : Int32), .ref (a3 2), .ref (a3 3), .int (0 : Int32)])), ((a3 0), .inl (E.1, 512, .inl (fun _ => 0))), ((a3 1), .inl (E.1, 40, .inl (fun _ => 0))), ((a3 2), .inl (E.1, 8, .inl (fun _ => 0))), ((a3 3), .inl (E.1, 8, .inl (fun _ => 0))), (q4, .inr (2, [.int (0 : Int32), .ref (a6 0), .ref (a6 1), .ref (a6 2)])), ((a6 0), .inl (E.1, 4, .inl (fun _ => 0))), ((a6 1), .inl (E.1, 4, .inl (fun _ => 0))), ((a6 2), .inl (E.1, 240, .inl (fun _ => 0)))] := hD
  refine lv_aload_n hx hb dX3_init_51 rfl (lv_at hl 0 rfl) ?_
  refine lv_iconst (v := 0) hx hb dX3_init_52 (by decide) ?_
  refine putF (D := G) (ci := 3) (v := .int (0 : Int32)) (ty := .boolean) (C := RX3) (T := TX3) (N := 10) hx hb hts inG_X3 tyX3 tyX3_ok nmX3 hown hK.1 hP hD hS 0 rfl rfl 8 (by decide) tf_X3_8 (hts _ wd_1456029b) pd_Z rfl rfl (Nat.le_of_ble_eq_true rfl) dX3_init_53 (fun H locs hP hD hS => ?_)
  have hP : va_P G vwCl [(hp0, .inr (3, [.null, .ref q1, .ref q4, .int (0 : Int32), .int (0 : Int32), .int (0 : Int32), .int (0 : Int32), .int (0 : Int32), .int (0 : Int32), .int (0 : Int32)])), (q1, .inr (1, [.ref (a3 0), .int (0 : Int32), .ref (a3 1), .int (0 : Int32), .ref (a3 2), .ref (a3 3), .int (0 : Int32)])), ((a3 0), .inl (E.1, 512, .inl (fun _ => 0))), ((a3 1), .inl (E.1, 40, .inl (fun _ => 0))), ((a3 2), .inl (E.1, 8, .inl (fun _ => 0))), ((a3 3), .inl (E.1, 8, .inl (fun _ => 0))), (q4, .inr (2, [.int (0 : Int32), .ref (a6 0), .ref (a6 1), .ref (a6 2)])), ((a6 0), .inl (E.1, 4, .inl (fun _ => 0))), ((a6 1), .inl (E.1, 4, .inl (fun _ => 0))), ((a6 2), .inl (E.1, 240, .inl (fun _ => 0)))] H := hP
  have hD : va_D A [(hp0, .inr (3, [.null, .ref q1, .ref q4, .int (0 : Int32), .int (0 : Int32), .int (0 : Int32), .int (0 : Int32), .int (0 : Int32), .int (0 : Int32), .int (0 : Int32)])), (q1, .inr (1, [.ref (a3 0), .int (0 : Int32), .ref (a3 1), .int (0 : Int32), .ref (a3 2), .ref (a3 3), .int (0 : Int32)])), ((a3 0), .inl (E.1, 512, .inl (fun _ => 0))), ((a3 1), .inl (E.1, 40, .inl (fun _ => 0))), ((a3 2), .inl (E.1, 8, .inl (fun _ => 0))), ((a3 3), .inl (E.1, 8, .inl (fun _ => 0))), (q4, .inr (2, [.int (0 : Int32), .ref (a6 0), .ref (a6 1), .ref (a6 2)])), ((a6 0), .inl (E.1, 4, .inl (fun _ => 0))), ((a6 1), .inl (E.1, 4, .inl (fun _ => 0))), ((a6 2), .inl (E.1, 240, .inl (fun _ => 0)))] := hD
  refine lv_aload_n hx hb dX3_init_56 rfl (lv_at hl 0 rfl) ?_
  refine lv_iconst (v := 0) hx hb dX3_init_57 (by decide) ?_
  refine putF (D := G) (ci := 3) (v := .int (0 : Int32)) (ty := .boolean) (C := RX3) (T := TX3) (N := 10) hx hb hts inG_X3 tyX3 tyX3_ok nmX3 hown hK.1 hP hD hS 0 rfl rfl 9 (by decide) tf_X3_9 (hts _ wd_b606cdff) pd_Z rfl rfl (Nat.le_of_ble_eq_true rfl) dX3_init_58 (fun H locs hP hD hS => ?_)
  have hP : va_P G vwCl [(hp0, .inr (3, [.null, .ref q1, .ref q4, .int (0 : Int32), .int (0 : Int32), .int (0 : Int32), .int (0 : Int32), .int (0 : Int32), .int (0 : Int32), .int (0 : Int32)])), (q1, .inr (1, [.ref (a3 0), .int (0 : Int32), .ref (a3 1), .int (0 : Int32), .ref (a3 2), .ref (a3 3), .int (0 : Int32)])), ((a3 0), .inl (E.1, 512, .inl (fun _ => 0))), ((a3 1), .inl (E.1, 40, .inl (fun _ => 0))), ((a3 2), .inl (E.1, 8, .inl (fun _ => 0))), ((a3 3), .inl (E.1, 8, .inl (fun _ => 0))), (q4, .inr (2, [.int (0 : Int32), .ref (a6 0), .ref (a6 1), .ref (a6 2)])), ((a6 0), .inl (E.1, 4, .inl (fun _ => 0))), ((a6 1), .inl (E.1, 4, .inl (fun _ => 0))), ((a6 2), .inl (E.1, 240, .inl (fun _ => 0)))] H := hP
  have hD : va_D A [(hp0, .inr (3, [.null, .ref q1, .ref q4, .int (0 : Int32), .int (0 : Int32), .int (0 : Int32), .int (0 : Int32), .int (0 : Int32), .int (0 : Int32), .int (0 : Int32)])), (q1, .inr (1, [.ref (a3 0), .int (0 : Int32), .ref (a3 1), .int (0 : Int32), .ref (a3 2), .ref (a3 3), .int (0 : Int32)])), ((a3 0), .inl (E.1, 512, .inl (fun _ => 0))), ((a3 1), .inl (E.1, 40, .inl (fun _ => 0))), ((a3 2), .inl (E.1, 8, .inl (fun _ => 0))), ((a3 3), .inl (E.1, 8, .inl (fun _ => 0))), (q4, .inr (2, [.int (0 : Int32), .ref (a6 0), .ref (a6 1), .ref (a6 2)])), ((a6 0), .inl (E.1, 4, .inl (fun _ => 0))), ((a6 1), .inl (E.1, 4, .inl (fun _ => 0))), ((a6 2), .inl (E.1, 240, .inl (fun _ => 0)))] := hD
  refine lv_aload_n hx hb dX3_init_61 rfl (lv_at hl 0 rfl) ?_
  refine lv_aload_n hx hb dX3_init_62 rfl (lv_at hl 1 rfl) ?_
  refine putFF (D := G) (ci := 3) (v := .ref hp1) (ty := .object "GlulxSaves$Story") (C := RX3) (T := TX3) (N := 10) hx hb hts inG_X3 tyX3 tyX3_ok nmX3 hown hK.1 hP hD hS 0 rfl rfl 0 (by decide) tf_X3_0 (hts _ wd_6692ab2b) hin (by decide +kernel) rfl rfl (Nat.le_of_ble_eq_true rfl) dX3_init_63 (fun H locs hP hD hS => ?_)
  have hP : va_P G vwCl [(hp0, .inr (3, [.ref hp1, .ref q1, .ref q4, .int (0 : Int32), .int (0 : Int32), .int (0 : Int32), .int (0 : Int32), .int (0 : Int32), .int (0 : Int32), .int (0 : Int32)])), (q1, .inr (1, [.ref (a3 0), .int (0 : Int32), .ref (a3 1), .int (0 : Int32), .ref (a3 2), .ref (a3 3), .int (0 : Int32)])), ((a3 0), .inl (E.1, 512, .inl (fun _ => 0))), ((a3 1), .inl (E.1, 40, .inl (fun _ => 0))), ((a3 2), .inl (E.1, 8, .inl (fun _ => 0))), ((a3 3), .inl (E.1, 8, .inl (fun _ => 0))), (q4, .inr (2, [.int (0 : Int32), .ref (a6 0), .ref (a6 1), .ref (a6 2)])), ((a6 0), .inl (E.1, 4, .inl (fun _ => 0))), ((a6 1), .inl (E.1, 4, .inl (fun _ => 0))), ((a6 2), .inl (E.1, 240, .inl (fun _ => 0)))] H := hP
  have hD : va_D A [(hp0, .inr (3, [.ref hp1, .ref q1, .ref q4, .int (0 : Int32), .int (0 : Int32), .int (0 : Int32), .int (0 : Int32), .int (0 : Int32), .int (0 : Int32), .int (0 : Int32)])), (q1, .inr (1, [.ref (a3 0), .int (0 : Int32), .ref (a3 1), .int (0 : Int32), .ref (a3 2), .ref (a3 3), .int (0 : Int32)])), ((a3 0), .inl (E.1, 512, .inl (fun _ => 0))), ((a3 1), .inl (E.1, 40, .inl (fun _ => 0))), ((a3 2), .inl (E.1, 8, .inl (fun _ => 0))), ((a3 3), .inl (E.1, 8, .inl (fun _ => 0))), (q4, .inr (2, [.int (0 : Int32), .ref (a6 0), .ref (a6 1), .ref (a6 2)])), ((a6 0), .inl (E.1, 4, .inl (fun _ => 0))), ((a6 1), .inl (E.1, 4, .inl (fun _ => 0))), ((a6 2), .inl (E.1, 240, .inl (fun _ => 0)))] := hD
  exact ret _ _ _ _ (fun k => [q1, (a3 0), (a3 1), (a3 2), (a3 3), q4, (a6 0), (a6 1), (a6 2)].getD k 0) hP hD hS dX3_init_66
def f_X3_forget (p0_story_end : Int32) (p0_story_original : (Nat → Int32)) (p0_machine_memory : (Nat → Int32)) : Option (Int32 × Int32 × Int32 × Int32 × Int32 × Int32 × Int32 × (Nat → Int32) × Int32 × Int32 × Int32 × Int32) :=
  bd (f_X1_begin p0_story_end p0_story_original p0_machine_memory) fun u1 =>
  some ((0 : Int32), (0 : Int32), (12 : Int32), (0 : Int32), (0 : Int32), (0 : Int32), (0 : Int32), u1.1, u1.2.1, u1.2.2.1, u1.2.2.2, (0 : Int32))
abbrev w_rm_X3_forget : Room := { frames := 2, cells := 0, slots := 0, locals := 85 }
set_option maxHeartbeats 4000000 in
set_option maxRecDepth 100000 in
theorem c_X3_forget (l : Launch) (G : va_G) (E : ClassId × ClassId × ClassId) (hp0 : Nat) (hp0_story : Nat) (hp0_machine : Nat) (hp0_others : Nat) (p0_fault : Int32) (p0_place : Int32) (p0_next : Int32) (p0_sawHead : Int32) (p0_sawMemory : Int32) (p0_sawStack : Int32) (p0_sawBlocks : Int32) (p0_story_ram : Int32) (p0_story_end : Int32) (hp0_story_original : Nat) (hp0_machine_memory : Nat) (p0_machine_size : Int32) (hp0_machine_stack : Nat) (p0_machine_depth : Int32) (hp0_machine_starts : Nat) (hp0_machine_lengths : Nat) (p0_machine_blocks : Int32) (p0_story_original : (Nat → Int32)) (p0_machine_memory : (Nat → Int32)) (p0_others_count : Int32) (hp0_others_letters : Nat) (hp0_others_lengths : Nat) (hp0_others_bytes : Nat) (o0 : Int32) (o1 : Int32) (o2 : Int32) (o3 : Int32) (o4 : Int32) (o5 : Int32) (o6 : Int32) (o7 : (Nat → Int32)) (o8 : Int32) (o9 : Int32) (o10 : Int32) (o11 : Int32) (h : f_X3_forget p0_story_end p0_story_original p0_machine_memory = some (o0, o1, o2, o3, o4, o5, o6, o7, o8, o9, o10, o11)) : MV l G E yX3_forget cX3_forget 1 w_rm_X3_forget [.ref hp0] [(hp0, .inr (3, [.ref hp0_story, .ref hp0_machine, .ref hp0_others, .int p0_fault, .int p0_place, .int p0_next, .int p0_sawHead, .int p0_sawMemory, .int p0_sawStack, .int p0_sawBlocks])), (hp0_story, .inr (4, [.int p0_story_ram, .int p0_story_end, .ref hp0_story_original])), (hp0_machine, .inr (1, [.ref hp0_machine_memory, .int p0_machine_size, .ref hp0_machine_stack, .int p0_machine_depth, .ref hp0_machine_starts, .ref hp0_machine_lengths, .int p0_machine_blocks])), (hp0_story_original, .inl (E.1, 512, .inl p0_story_original)), (hp0_machine_memory, .inl (E.1, 512, .inl p0_machine_memory)), (hp0_others, .inr (2, [.int p0_others_count, .ref hp0_others_letters, .ref hp0_others_lengths, .ref hp0_others_bytes]))] (fun a => [(hp0, .inr (3, [.ref hp0_story, .ref hp0_machine, .ref hp0_others, .int o0, .int o1, .int o2, .int o3, .int o4, .int o5, .int o6])), (hp0_story, .inr (4, [.int p0_story_ram, .int p0_story_end, .ref hp0_story_original])), (hp0_machine, .inr (1, [.ref hp0_machine_memory, .int o8, .ref hp0_machine_stack, .int o9, .ref hp0_machine_starts, .ref hp0_machine_lengths, .int o10])), (hp0_story_original, .inl (E.1, 512, .inl p0_story_original)), (hp0_machine_memory, .inl (E.1, 512, .inl o7)), (hp0_others, .inr (2, [.int o11, .ref hp0_others_letters, .ref hp0_others_lengths, .ref hp0_others_bytes]))]) 0 0 := by
  refine MV_of (by decide) (Nat.le_of_ble_eq_true rfl) ?_
  intro p e s m args below meth c A Q hx hb hml hown hin hts hK hA hP hD hS ret ls hl
  replace hl : lv_has ls 1 [(0, .ref hp0)] := hl
  unfold f_X3_forget at h
  refine lv_aload_n hx hb dX3_forget_0 rfl (lv_at hl 0 rfl) ?_
  refine getF (D := G) (ci := 3) (v := .ref hp0_machine) (C := RX3) (T := TX3) (N := 10) hx hb hts inG_X3 hown hK.1 hP 0 rfl rfl 1 (by decide) tf_X3_1 (hts _ wd_4f086646) rfl dX3_forget_1 ?_
  refine lv_aload_n hx hb dX3_forget_4 rfl (lv_at hl 0 rfl) ?_
  refine getF (D := G) (ci := 3) (v := .ref hp0_story) (C := RX3) (T := TX3) (N := 10) hx hb hts inG_X3 hown hK.1 hP 0 rfl rfl 0 (by decide) tf_X3_0 (hts _ wd_6692ab2b) rfl dX3_forget_5 ?_
  obtain ⟨u1, hu1, h⟩ := bd_t h
  refine cVv (wr := [(hp0, .inr (3, [.ref hp0_story, .ref hp0_machine, .ref hp0_others, .int p0_fault, .int p0_place, .int p0_next, .int p0_sawHead, .int p0_sawMemory, .int p0_sawStack, .int p0_sawBlocks])), (hp0_others, .inr (2, [.int p0_others_count, .ref hp0_others_letters, .ref hp0_others_lengths, .ref hp0_others_bytes]))]) (As := [.ref hp0_story]) (rest := []) ⟨hx, hb, hml, hown, hts⟩ (c_X1_begin l G E hp0_story p0_story_ram p0_story_end hp0_story_original hp0_machine hp0_machine_memory p0_machine_size hp0_machine_stack p0_machine_depth hp0_machine_starts hp0_machine_lengths p0_machine_blocks p0_story_original p0_machine_memory u1.1 u1.2.1 u1.2.2.1 u1.2.2.2 hu1) ok_X1_begin okv_X1_begin wd_09e6b058 ⟨Nat.le_of_ble_eq_true rfl, Nat.le_of_ble_eq_true rfl⟩ hK hP hD hS hA [1, 2, 3, 4] [0, 5] rfl rfl (by decide) (by decide) (by decide) (va_recv hK.1 hP (ci := 1) (q0 := 2) rfl rfl) rfl hl.1 rfl (Nat.le_of_ble_eq_true rfl) dX3_forget_8 ⟨Nat.le_of_ble_eq_true rfl, Nat.le_of_ble_eq_true rfl⟩ (fun H locs a2 hP hD hS => ?_)
  have hP : va_P G vwCl [(hp0, .inr (3, [.ref hp0_story, .ref hp0_machine, .ref hp0_others, .int p0_fault, .int p0_place, .int p0_next, .int p0_sawHead, .int p0_sawMemory, .int p0_sawStack, .int p0_sawBlocks])), (hp0_others, .inr (2, [.int p0_others_count, .ref hp0_others_letters, .ref hp0_others_lengths, .ref hp0_others_bytes])), (hp0_story, .inr (4, [.int p0_story_ram, .int p0_story_end, .ref hp0_story_original])), (hp0_machine, .inr (1, [.ref hp0_machine_memory, .int u1.2.1, .ref hp0_machine_stack, .int u1.2.2.1, .ref hp0_machine_starts, .ref hp0_machine_lengths, .int u1.2.2.2])), (hp0_story_original, .inl (E.1, 512, .inl p0_story_original)), (hp0_machine_memory, .inl (E.1, 512, .inl u1.1))] H := hP
  have hD : va_D A [(hp0, .inr (3, [.ref hp0_story, .ref hp0_machine, .ref hp0_others, .int p0_fault, .int p0_place, .int p0_next, .int p0_sawHead, .int p0_sawMemory, .int p0_sawStack, .int p0_sawBlocks])), (hp0_others, .inr (2, [.int p0_others_count, .ref hp0_others_letters, .ref hp0_others_lengths, .ref hp0_others_bytes])), (hp0_story, .inr (4, [.int p0_story_ram, .int p0_story_end, .ref hp0_story_original])), (hp0_machine, .inr (1, [.ref hp0_machine_memory, .int u1.2.1, .ref hp0_machine_stack, .int u1.2.2.1, .ref hp0_machine_starts, .ref hp0_machine_lengths, .int u1.2.2.2])), (hp0_story_original, .inl (E.1, 512, .inl p0_story_original)), (hp0_machine_memory, .inl (E.1, 512, .inl u1.1))] := hD
  refine lv_aload_n hx hb dX3_forget_11 rfl (lv_at hl 0 rfl) ?_
  refine getF (D := G) (ci := 3) (v := .ref hp0_others) (C := RX3) (T := TX3) (N := 10) hx hb hts inG_X3 hown hK.1 hP 0 rfl rfl 2 (by decide) tf_X3_2 (hts _ wd_f439a22a) rfl dX3_forget_12 ?_
  refine lv_iconst (v := 0) hx hb dX3_forget_15 (by decide) ?_
  refine putF (D := G) (ci := 2) (v := .int (0 : Int32)) (ty := .int) (C := RX2) (T := TX2) (N := 4) hx hb hts inG_X2 tyX2 tyX2_ok nmX2 hown hK.1 hP hD hS 1 rfl rfl 0 (by decide) tf_X2_0 (hts _ wd_d4608ca1) pd_I rfl rfl (Nat.le_of_ble_eq_true rfl) dX3_forget_16 (fun H locs hP hD hS => ?_)
  have hP : va_P G vwCl [(hp0, .inr (3, [.ref hp0_story, .ref hp0_machine, .ref hp0_others, .int p0_fault, .int p0_place, .int p0_next, .int p0_sawHead, .int p0_sawMemory, .int p0_sawStack, .int p0_sawBlocks])), (hp0_others, .inr (2, [.int (0 : Int32), .ref hp0_others_letters, .ref hp0_others_lengths, .ref hp0_others_bytes])), (hp0_story, .inr (4, [.int p0_story_ram, .int p0_story_end, .ref hp0_story_original])), (hp0_machine, .inr (1, [.ref hp0_machine_memory, .int u1.2.1, .ref hp0_machine_stack, .int u1.2.2.1, .ref hp0_machine_starts, .ref hp0_machine_lengths, .int u1.2.2.2])), (hp0_story_original, .inl (E.1, 512, .inl p0_story_original)), (hp0_machine_memory, .inl (E.1, 512, .inl u1.1))] H := hP
  have hD : va_D A [(hp0, .inr (3, [.ref hp0_story, .ref hp0_machine, .ref hp0_others, .int p0_fault, .int p0_place, .int p0_next, .int p0_sawHead, .int p0_sawMemory, .int p0_sawStack, .int p0_sawBlocks])), (hp0_others, .inr (2, [.int (0 : Int32), .ref hp0_others_letters, .ref hp0_others_lengths, .ref hp0_others_bytes])), (hp0_story, .inr (4, [.int p0_story_ram, .int p0_story_end, .ref hp0_story_original])), (hp0_machine, .inr (1, [.ref hp0_machine_memory, .int u1.2.1, .ref hp0_machine_stack, .int u1.2.2.1, .ref hp0_machine_starts, .ref hp0_machine_lengths, .int u1.2.2.2])), (hp0_story_original, .inl (E.1, 512, .inl p0_story_original)), (hp0_machine_memory, .inl (E.1, 512, .inl u1.1))] := hD
  refine lv_aload_n hx hb dX3_forget_19 rfl (lv_at hl 0 rfl) ?_
  refine lv_iconst (v := 0) hx hb dX3_forget_20 (by decide) ?_
  refine putF (D := G) (ci := 3) (v := .int (0 : Int32)) (ty := .int) (C := RX3) (T := TX3) (N := 10) hx hb hts inG_X3 tyX3 tyX3_ok nmX3 hown hK.1 hP hD hS 0 rfl rfl 3 (by decide) tf_X3_3 (hts _ wd_101176e0) pd_I rfl rfl (Nat.le_of_ble_eq_true rfl) dX3_forget_21 (fun H locs hP hD hS => ?_)
  have hP : va_P G vwCl [(hp0, .inr (3, [.ref hp0_story, .ref hp0_machine, .ref hp0_others, .int (0 : Int32), .int p0_place, .int p0_next, .int p0_sawHead, .int p0_sawMemory, .int p0_sawStack, .int p0_sawBlocks])), (hp0_others, .inr (2, [.int (0 : Int32), .ref hp0_others_letters, .ref hp0_others_lengths, .ref hp0_others_bytes])), (hp0_story, .inr (4, [.int p0_story_ram, .int p0_story_end, .ref hp0_story_original])), (hp0_machine, .inr (1, [.ref hp0_machine_memory, .int u1.2.1, .ref hp0_machine_stack, .int u1.2.2.1, .ref hp0_machine_starts, .ref hp0_machine_lengths, .int u1.2.2.2])), (hp0_story_original, .inl (E.1, 512, .inl p0_story_original)), (hp0_machine_memory, .inl (E.1, 512, .inl u1.1))] H := hP
  have hD : va_D A [(hp0, .inr (3, [.ref hp0_story, .ref hp0_machine, .ref hp0_others, .int (0 : Int32), .int p0_place, .int p0_next, .int p0_sawHead, .int p0_sawMemory, .int p0_sawStack, .int p0_sawBlocks])), (hp0_others, .inr (2, [.int (0 : Int32), .ref hp0_others_letters, .ref hp0_others_lengths, .ref hp0_others_bytes])), (hp0_story, .inr (4, [.int p0_story_ram, .int p0_story_end, .ref hp0_story_original])), (hp0_machine, .inr (1, [.ref hp0_machine_memory, .int u1.2.1, .ref hp0_machine_stack, .int u1.2.2.1, .ref hp0_machine_starts, .ref hp0_machine_lengths, .int u1.2.2.2])), (hp0_story_original, .inl (E.1, 512, .inl p0_story_original)), (hp0_machine_memory, .inl (E.1, 512, .inl u1.1))] := hD
  refine lv_aload_n hx hb dX3_forget_24 rfl (lv_at hl 0 rfl) ?_
  refine lv_iconst (v := 0) hx hb dX3_forget_25 (by decide) ?_
  refine putF (D := G) (ci := 3) (v := .int (0 : Int32)) (ty := .int) (C := RX3) (T := TX3) (N := 10) hx hb hts inG_X3 tyX3 tyX3_ok nmX3 hown hK.1 hP hD hS 0 rfl rfl 4 (by decide) tf_X3_4 (hts _ wd_54867c0d) pd_I rfl rfl (Nat.le_of_ble_eq_true rfl) dX3_forget_26 (fun H locs hP hD hS => ?_)
  have hP : va_P G vwCl [(hp0, .inr (3, [.ref hp0_story, .ref hp0_machine, .ref hp0_others, .int (0 : Int32), .int (0 : Int32), .int p0_next, .int p0_sawHead, .int p0_sawMemory, .int p0_sawStack, .int p0_sawBlocks])), (hp0_others, .inr (2, [.int (0 : Int32), .ref hp0_others_letters, .ref hp0_others_lengths, .ref hp0_others_bytes])), (hp0_story, .inr (4, [.int p0_story_ram, .int p0_story_end, .ref hp0_story_original])), (hp0_machine, .inr (1, [.ref hp0_machine_memory, .int u1.2.1, .ref hp0_machine_stack, .int u1.2.2.1, .ref hp0_machine_starts, .ref hp0_machine_lengths, .int u1.2.2.2])), (hp0_story_original, .inl (E.1, 512, .inl p0_story_original)), (hp0_machine_memory, .inl (E.1, 512, .inl u1.1))] H := hP
  have hD : va_D A [(hp0, .inr (3, [.ref hp0_story, .ref hp0_machine, .ref hp0_others, .int (0 : Int32), .int (0 : Int32), .int p0_next, .int p0_sawHead, .int p0_sawMemory, .int p0_sawStack, .int p0_sawBlocks])), (hp0_others, .inr (2, [.int (0 : Int32), .ref hp0_others_letters, .ref hp0_others_lengths, .ref hp0_others_bytes])), (hp0_story, .inr (4, [.int p0_story_ram, .int p0_story_end, .ref hp0_story_original])), (hp0_machine, .inr (1, [.ref hp0_machine_memory, .int u1.2.1, .ref hp0_machine_stack, .int u1.2.2.1, .ref hp0_machine_starts, .ref hp0_machine_lengths, .int u1.2.2.2])), (hp0_story_original, .inl (E.1, 512, .inl p0_story_original)), (hp0_machine_memory, .inl (E.1, 512, .inl u1.1))] := hD
  refine lv_aload_n hx hb dX3_forget_29 rfl (lv_at hl 0 rfl) ?_
  refine lv_bipush (v := 12) hx hb dX3_forget_30 (by decide) ?_
  refine putF (D := G) (ci := 3) (v := .int (12 : Int32)) (ty := .int) (C := RX3) (T := TX3) (N := 10) hx hb hts inG_X3 tyX3 tyX3_ok nmX3 hown hK.1 hP hD hS 0 rfl rfl 5 (by decide) tf_X3_5 (hts _ wd_ba30ed8e) pd_I rfl rfl (Nat.le_of_ble_eq_true rfl) dX3_forget_32 (fun H locs hP hD hS => ?_)
  have hP : va_P G vwCl [(hp0, .inr (3, [.ref hp0_story, .ref hp0_machine, .ref hp0_others, .int (0 : Int32), .int (0 : Int32), .int (12 : Int32), .int p0_sawHead, .int p0_sawMemory, .int p0_sawStack, .int p0_sawBlocks])), (hp0_others, .inr (2, [.int (0 : Int32), .ref hp0_others_letters, .ref hp0_others_lengths, .ref hp0_others_bytes])), (hp0_story, .inr (4, [.int p0_story_ram, .int p0_story_end, .ref hp0_story_original])), (hp0_machine, .inr (1, [.ref hp0_machine_memory, .int u1.2.1, .ref hp0_machine_stack, .int u1.2.2.1, .ref hp0_machine_starts, .ref hp0_machine_lengths, .int u1.2.2.2])), (hp0_story_original, .inl (E.1, 512, .inl p0_story_original)), (hp0_machine_memory, .inl (E.1, 512, .inl u1.1))] H := hP
  have hD : va_D A [(hp0, .inr (3, [.ref hp0_story, .ref hp0_machine, .ref hp0_others, .int (0 : Int32), .int (0 : Int32), .int (12 : Int32), .int p0_sawHead, .int p0_sawMemory, .int p0_sawStack, .int p0_sawBlocks])), (hp0_others, .inr (2, [.int (0 : Int32), .ref hp0_others_letters, .ref hp0_others_lengths, .ref hp0_others_bytes])), (hp0_story, .inr (4, [.int p0_story_ram, .int p0_story_end, .ref hp0_story_original])), (hp0_machine, .inr (1, [.ref hp0_machine_memory, .int u1.2.1, .ref hp0_machine_stack, .int u1.2.2.1, .ref hp0_machine_starts, .ref hp0_machine_lengths, .int u1.2.2.2])), (hp0_story_original, .inl (E.1, 512, .inl p0_story_original)), (hp0_machine_memory, .inl (E.1, 512, .inl u1.1))] := hD
  refine lv_aload_n hx hb dX3_forget_35 rfl (lv_at hl 0 rfl) ?_
  refine lv_iconst (v := 0) hx hb dX3_forget_36 (by decide) ?_
  refine putF (D := G) (ci := 3) (v := .int (0 : Int32)) (ty := .boolean) (C := RX3) (T := TX3) (N := 10) hx hb hts inG_X3 tyX3 tyX3_ok nmX3 hown hK.1 hP hD hS 0 rfl rfl 6 (by decide) tf_X3_6 (hts _ wd_3f712f62) pd_Z rfl rfl (Nat.le_of_ble_eq_true rfl) dX3_forget_37 (fun H locs hP hD hS => ?_)
  have hP : va_P G vwCl [(hp0, .inr (3, [.ref hp0_story, .ref hp0_machine, .ref hp0_others, .int (0 : Int32), .int (0 : Int32), .int (12 : Int32), .int (0 : Int32), .int p0_sawMemory, .int p0_sawStack, .int p0_sawBlocks])), (hp0_others, .inr (2, [.int (0 : Int32), .ref hp0_others_letters, .ref hp0_others_lengths, .ref hp0_others_bytes])), (hp0_story, .inr (4, [.int p0_story_ram, .int p0_story_end, .ref hp0_story_original])), (hp0_machine, .inr (1, [.ref hp0_machine_memory, .int u1.2.1, .ref hp0_machine_stack, .int u1.2.2.1, .ref hp0_machine_starts, .ref hp0_machine_lengths, .int u1.2.2.2])), (hp0_story_original, .inl (E.1, 512, .inl p0_story_original)), (hp0_machine_memory, .inl (E.1, 512, .inl u1.1))] H := hP
  have hD : va_D A [(hp0, .inr (3, [.ref hp0_story, .ref hp0_machine, .ref hp0_others, .int (0 : Int32), .int (0 : Int32), .int (12 : Int32), .int (0 : Int32), .int p0_sawMemory, .int p0_sawStack, .int p0_sawBlocks])), (hp0_others, .inr (2, [.int (0 : Int32), .ref hp0_others_letters, .ref hp0_others_lengths, .ref hp0_others_bytes])), (hp0_story, .inr (4, [.int p0_story_ram, .int p0_story_end, .ref hp0_story_original])), (hp0_machine, .inr (1, [.ref hp0_machine_memory, .int u1.2.1, .ref hp0_machine_stack, .int u1.2.2.1, .ref hp0_machine_starts, .ref hp0_machine_lengths, .int u1.2.2.2])), (hp0_story_original, .inl (E.1, 512, .inl p0_story_original)), (hp0_machine_memory, .inl (E.1, 512, .inl u1.1))] := hD
  refine lv_aload_n hx hb dX3_forget_40 rfl (lv_at hl 0 rfl) ?_
  refine lv_iconst (v := 0) hx hb dX3_forget_41 (by decide) ?_
  refine putF (D := G) (ci := 3) (v := .int (0 : Int32)) (ty := .boolean) (C := RX3) (T := TX3) (N := 10) hx hb hts inG_X3 tyX3 tyX3_ok nmX3 hown hK.1 hP hD hS 0 rfl rfl 7 (by decide) tf_X3_7 (hts _ wd_fb0e5dcc) pd_Z rfl rfl (Nat.le_of_ble_eq_true rfl) dX3_forget_42 (fun H locs hP hD hS => ?_)
  have hP : va_P G vwCl [(hp0, .inr (3, [.ref hp0_story, .ref hp0_machine, .ref hp0_others, .int (0 : Int32), .int (0 : Int32), .int (12 : Int32), .int (0 : Int32), .int (0 : Int32), .int p0_sawStack, .int p0_sawBlocks])), (hp0_others, .inr (2, [.int (0 : Int32), .ref hp0_others_letters, .ref hp0_others_lengths, .ref hp0_others_bytes])), (hp0_story, .inr (4, [.int p0_story_ram, .int p0_story_end, .ref hp0_story_original])), (hp0_machine, .inr (1, [.ref hp0_machine_memory, .int u1.2.1, .ref hp0_machine_stack, .int u1.2.2.1, .ref hp0_machine_starts, .ref hp0_machine_lengths, .int u1.2.2.2])), (hp0_story_original, .inl (E.1, 512, .inl p0_story_original)), (hp0_machine_memory, .inl (E.1, 512, .inl u1.1))] H := hP
  have hD : va_D A [(hp0, .inr (3, [.ref hp0_story, .ref hp0_machine, .ref hp0_others, .int (0 : Int32), .int (0 : Int32), .int (12 : Int32), .int (0 : Int32), .int (0 : Int32), .int p0_sawStack, .int p0_sawBlocks])), (hp0_others, .inr (2, [.int (0 : Int32), .ref hp0_others_letters, .ref hp0_others_lengths, .ref hp0_others_bytes])), (hp0_story, .inr (4, [.int p0_story_ram, .int p0_story_end, .ref hp0_story_original])), (hp0_machine, .inr (1, [.ref hp0_machine_memory, .int u1.2.1, .ref hp0_machine_stack, .int u1.2.2.1, .ref hp0_machine_starts, .ref hp0_machine_lengths, .int u1.2.2.2])), (hp0_story_original, .inl (E.1, 512, .inl p0_story_original)), (hp0_machine_memory, .inl (E.1, 512, .inl u1.1))] := hD
  refine lv_aload_n hx hb dX3_forget_45 rfl (lv_at hl 0 rfl) ?_
  refine lv_iconst (v := 0) hx hb dX3_forget_46 (by decide) ?_
  refine putF (D := G) (ci := 3) (v := .int (0 : Int32)) (ty := .boolean) (C := RX3) (T := TX3) (N := 10) hx hb hts inG_X3 tyX3 tyX3_ok nmX3 hown hK.1 hP hD hS 0 rfl rfl 8 (by decide) tf_X3_8 (hts _ wd_1456029b) pd_Z rfl rfl (Nat.le_of_ble_eq_true rfl) dX3_forget_47 (fun H locs hP hD hS => ?_)
  have hP : va_P G vwCl [(hp0, .inr (3, [.ref hp0_story, .ref hp0_machine, .ref hp0_others, .int (0 : Int32), .int (0 : Int32), .int (12 : Int32), .int (0 : Int32), .int (0 : Int32), .int (0 : Int32), .int p0_sawBlocks])), (hp0_others, .inr (2, [.int (0 : Int32), .ref hp0_others_letters, .ref hp0_others_lengths, .ref hp0_others_bytes])), (hp0_story, .inr (4, [.int p0_story_ram, .int p0_story_end, .ref hp0_story_original])), (hp0_machine, .inr (1, [.ref hp0_machine_memory, .int u1.2.1, .ref hp0_machine_stack, .int u1.2.2.1, .ref hp0_machine_starts, .ref hp0_machine_lengths, .int u1.2.2.2])), (hp0_story_original, .inl (E.1, 512, .inl p0_story_original)), (hp0_machine_memory, .inl (E.1, 512, .inl u1.1))] H := hP
  have hD : va_D A [(hp0, .inr (3, [.ref hp0_story, .ref hp0_machine, .ref hp0_others, .int (0 : Int32), .int (0 : Int32), .int (12 : Int32), .int (0 : Int32), .int (0 : Int32), .int (0 : Int32), .int p0_sawBlocks])), (hp0_others, .inr (2, [.int (0 : Int32), .ref hp0_others_letters, .ref hp0_others_lengths, .ref hp0_others_bytes])), (hp0_story, .inr (4, [.int p0_story_ram, .int p0_story_end, .ref hp0_story_original])), (hp0_machine, .inr (1, [.ref hp0_machine_memory, .int u1.2.1, .ref hp0_machine_stack, .int u1.2.2.1, .ref hp0_machine_starts, .ref hp0_machine_lengths, .int u1.2.2.2])), (hp0_story_original, .inl (E.1, 512, .inl p0_story_original)), (hp0_machine_memory, .inl (E.1, 512, .inl u1.1))] := hD
  refine lv_aload_n hx hb dX3_forget_50 rfl (lv_at hl 0 rfl) ?_
  refine lv_iconst (v := 0) hx hb dX3_forget_51 (by decide) ?_
  refine putF (D := G) (ci := 3) (v := .int (0 : Int32)) (ty := .boolean) (C := RX3) (T := TX3) (N := 10) hx hb hts inG_X3 tyX3 tyX3_ok nmX3 hown hK.1 hP hD hS 0 rfl rfl 9 (by decide) tf_X3_9 (hts _ wd_b606cdff) pd_Z rfl rfl (Nat.le_of_ble_eq_true rfl) dX3_forget_52 (fun H locs hP hD hS => ?_)
  have hP : va_P G vwCl [(hp0, .inr (3, [.ref hp0_story, .ref hp0_machine, .ref hp0_others, .int (0 : Int32), .int (0 : Int32), .int (12 : Int32), .int (0 : Int32), .int (0 : Int32), .int (0 : Int32), .int (0 : Int32)])), (hp0_others, .inr (2, [.int (0 : Int32), .ref hp0_others_letters, .ref hp0_others_lengths, .ref hp0_others_bytes])), (hp0_story, .inr (4, [.int p0_story_ram, .int p0_story_end, .ref hp0_story_original])), (hp0_machine, .inr (1, [.ref hp0_machine_memory, .int u1.2.1, .ref hp0_machine_stack, .int u1.2.2.1, .ref hp0_machine_starts, .ref hp0_machine_lengths, .int u1.2.2.2])), (hp0_story_original, .inl (E.1, 512, .inl p0_story_original)), (hp0_machine_memory, .inl (E.1, 512, .inl u1.1))] H := hP
  have hD : va_D A [(hp0, .inr (3, [.ref hp0_story, .ref hp0_machine, .ref hp0_others, .int (0 : Int32), .int (0 : Int32), .int (12 : Int32), .int (0 : Int32), .int (0 : Int32), .int (0 : Int32), .int (0 : Int32)])), (hp0_others, .inr (2, [.int (0 : Int32), .ref hp0_others_letters, .ref hp0_others_lengths, .ref hp0_others_bytes])), (hp0_story, .inr (4, [.int p0_story_ram, .int p0_story_end, .ref hp0_story_original])), (hp0_machine, .inr (1, [.ref hp0_machine_memory, .int u1.2.1, .ref hp0_machine_stack, .int u1.2.2.1, .ref hp0_machine_starts, .ref hp0_machine_lengths, .int u1.2.2.2])), (hp0_story_original, .inl (E.1, 512, .inl p0_story_original)), (hp0_machine_memory, .inl (E.1, 512, .inl u1.1))] := hD
  cases h
  exact ret _ _ _ _ (fun _ => 0) (hP.sub [0, 2, 3, 4, 5, 1] rfl) (hD.sub [0, 2, 3, 4, 5, 1] (by decide) rfl) hS dX3_forget_55
def f_X3_fail (i1 : Int32) (i2 : Int32) : Option (Int32 × Int32 × Int32) :=
  some ((0 : Int32), i1, i2)
abbrev w_rm_X3_fail : Room := { frames := 0, cells := 0, slots := 0, locals := 0 }
set_option maxHeartbeats 4000000 in
set_option maxRecDepth 100000 in
theorem c_X3_fail (l : Launch) (G : va_G) (E : ClassId × ClassId × ClassId) (hp0 : Nat) (hp0_story : Nat) (hp0_machine : Nat) (hp0_others : Nat) (p0_fault : Int32) (p0_place : Int32) (p0_next : Int32) (p0_sawHead : Int32) (p0_sawMemory : Int32) (p0_sawStack : Int32) (p0_sawBlocks : Int32) (i1 : Int32) (i2 : Int32) (r : Int32) (o0 : Int32) (o1 : Int32) (h : f_X3_fail i1 i2 = some (r, o0, o1)) : MI l G E yX3_fail cX3_fail 3 .boolean w_rm_X3_fail [.ref hp0, .int i1, .int i2] [(hp0, .inr (3, [.ref hp0_story, .ref hp0_machine, .ref hp0_others, .int p0_fault, .int p0_place, .int p0_next, .int p0_sawHead, .int p0_sawMemory, .int p0_sawStack, .int p0_sawBlocks]))] r (fun a => [(hp0, .inr (3, [.ref hp0_story, .ref hp0_machine, .ref hp0_others, .int o0, .int o1, .int p0_next, .int p0_sawHead, .int p0_sawMemory, .int p0_sawStack, .int p0_sawBlocks]))]) 0 0 := by
  refine MI_of (by decide) (Nat.le_of_ble_eq_true rfl) ?_
  intro p e s m args below meth c A Q hx hb hml hown hts hK hA hP hD hS ret ls hl
  replace hl : lv_has ls 3 [(0, .ref hp0), (1, .int i1), (2, .int i2)] := hl
  unfold f_X3_fail at h
  refine lv_aload_n hx hb dX3_fail_0 rfl (lv_at hl 0 rfl) ?_
  refine lv_iload_n hx hb dX3_fail_1 rfl (lv_at hl 1 rfl) ?_
  refine putF (D := G) (ci := 3) (v := .int i1) (ty := .int) (C := RX3) (T := TX3) (N := 10) hx hb hts inG_X3 tyX3 tyX3_ok nmX3 hown hK.1 hP hD hS 0 rfl rfl 3 (by decide) tf_X3_3 (hts _ wd_101176e0) pd_I rfl rfl (Nat.le_of_ble_eq_true rfl) dX3_fail_2 (fun H locs hP hD hS => ?_)
  have hP : va_P G vwCl [(hp0, .inr (3, [.ref hp0_story, .ref hp0_machine, .ref hp0_others, .int i1, .int p0_place, .int p0_next, .int p0_sawHead, .int p0_sawMemory, .int p0_sawStack, .int p0_sawBlocks]))] H := hP
  have hD : va_D A [(hp0, .inr (3, [.ref hp0_story, .ref hp0_machine, .ref hp0_others, .int i1, .int p0_place, .int p0_next, .int p0_sawHead, .int p0_sawMemory, .int p0_sawStack, .int p0_sawBlocks]))] := hD
  refine lv_aload_n hx hb dX3_fail_5 rfl (lv_at hl 0 rfl) ?_
  refine lv_iload_n hx hb dX3_fail_6 rfl (lv_at hl 2 rfl) ?_
  refine putF (D := G) (ci := 3) (v := .int i2) (ty := .int) (C := RX3) (T := TX3) (N := 10) hx hb hts inG_X3 tyX3 tyX3_ok nmX3 hown hK.1 hP hD hS 0 rfl rfl 4 (by decide) tf_X3_4 (hts _ wd_54867c0d) pd_I rfl rfl (Nat.le_of_ble_eq_true rfl) dX3_fail_7 (fun H locs hP hD hS => ?_)
  have hP : va_P G vwCl [(hp0, .inr (3, [.ref hp0_story, .ref hp0_machine, .ref hp0_others, .int i1, .int i2, .int p0_next, .int p0_sawHead, .int p0_sawMemory, .int p0_sawStack, .int p0_sawBlocks]))] H := hP
  have hD : va_D A [(hp0, .inr (3, [.ref hp0_story, .ref hp0_machine, .ref hp0_others, .int i1, .int i2, .int p0_next, .int p0_sawHead, .int p0_sawMemory, .int p0_sawStack, .int p0_sawBlocks]))] := hD
  refine lv_iconst (v := 0) hx hb dX3_fail_10 (by decide) ?_
  cases h
  exact ret _ _ _ _ _ (fun _ => 0) rfl rfl hP hD hS dX3_fail_11
def f_X3_reaches (i2 : Int32) (j3 : Int64) (p1_size : Int32) (p0_fault : Int32) (p0_place : Int32) : Option (Int32 × Int32 × Int32) :=
  bd (f_X0_holds i2 j3 p1_size) fun u1 =>
  if u1 = 0 then (
  bd (f_X3_fail (1 : Int32) p1_size) fun u4 =>
  if u4.1 = 0 then (
  some ((0 : Int32), u4.2.1, u4.2.2))
  else
  some ((1 : Int32), u4.2.1, u4.2.2))
  else
  some ((1 : Int32), p0_fault, p0_place)
abbrev w_rm_X3_reaches : Room := { frames := 1, cells := 0, slots := 0, locals := 23 }
set_option maxHeartbeats 4000000 in
set_option maxRecDepth 100000 in
theorem c_X3_reaches (l : Launch) (G : va_G) (E : ClassId × ClassId × ClassId) (hp1 : Nat) (hp1_bytes : Nat) (p1_size : Int32) (p1_overflowed : Int32) (hp0 : Nat) (hp0_story : Nat) (hp0_machine : Nat) (hp0_others : Nat) (p0_fault : Int32) (p0_place : Int32) (p0_next : Int32) (p0_sawHead : Int32) (p0_sawMemory : Int32) (p0_sawStack : Int32) (p0_sawBlocks : Int32) (i2 : Int32) (j3 : Int64) (r : Int32) (o0 : Int32) (o1 : Int32) (h : f_X3_reaches i2 j3 p1_size p0_fault p0_place = some (r, o0, o1)) : MI l G E yX3_reaches cX3_reaches 5 .boolean w_rm_X3_reaches [.ref hp0, .ref hp1, .int i2, .long j3] [(hp1, .inr (0, [.ref hp1_bytes, .int p1_size, .int p1_overflowed])), (hp0, .inr (3, [.ref hp0_story, .ref hp0_machine, .ref hp0_others, .int p0_fault, .int p0_place, .int p0_next, .int p0_sawHead, .int p0_sawMemory, .int p0_sawStack, .int p0_sawBlocks]))] r (fun a => [(hp1, .inr (0, [.ref hp1_bytes, .int p1_size, .int p1_overflowed])), (hp0, .inr (3, [.ref hp0_story, .ref hp0_machine, .ref hp0_others, .int o0, .int o1, .int p0_next, .int p0_sawHead, .int p0_sawMemory, .int p0_sawStack, .int p0_sawBlocks]))]) 0 0 := by
  refine MI_of (by decide) (Nat.le_of_ble_eq_true rfl) ?_
  intro p e s m args below meth c A Q hx hb hml hown hts hK hA hP hD hS ret ls hl
  replace hl : lv_has ls 5 [(0, .ref hp0), (1, .ref hp1), (2, .int i2), (3, .long j3)] := hl
  unfold f_X3_reaches at h
  refine lv_aload_n hx hb dX3_reaches_0 rfl (lv_at hl 1 rfl) ?_
  refine lv_iload_n hx hb dX3_reaches_1 rfl (lv_at hl 2 rfl) ?_
  refine lv_lload_n hx hb dX3_reaches_2 rfl (lv_at hl 3 rfl) ?_
  obtain ⟨u1, hu1, h⟩ := bd_t h
  refine cVi (wr := [(hp0, .inr (3, [.ref hp0_story, .ref hp0_machine, .ref hp0_others, .int p0_fault, .int p0_place, .int p0_next, .int p0_sawHead, .int p0_sawMemory, .int p0_sawStack, .int p0_sawBlocks]))]) (As := [.int i2, .long j3]) (rest := []) ⟨hx, hb, hml, hown, hts⟩ (c_X0_holds l G E hp1 hp1_bytes p1_size p1_overflowed i2 j3 u1 hu1) ok_X0_holds okv_X0_holds wd_a914564f ⟨Nat.le_of_ble_eq_true rfl, Nat.le_of_ble_eq_true rfl⟩ hK hP hD hS hA [0] [1] rfl rfl (by decide) (by decide) (by decide) (va_recv hK.1 hP (ci := 0) (q0 := 0) rfl rfl) rfl hl.1 rfl (Nat.le_of_ble_eq_true rfl) dX3_reaches_3 ⟨Nat.le_of_ble_eq_true rfl, Nat.le_of_ble_eq_true rfl⟩ (fun H locs a2 hP hD hS => ?_)
  have hP : va_P G vwCl [(hp0, .inr (3, [.ref hp0_story, .ref hp0_machine, .ref hp0_others, .int p0_fault, .int p0_place, .int p0_next, .int p0_sawHead, .int p0_sawMemory, .int p0_sawStack, .int p0_sawBlocks])), (hp1, .inr (0, [.ref hp1_bytes, .int p1_size, .int p1_overflowed]))] H := hP
  have hD : va_D A [(hp0, .inr (3, [.ref hp0_story, .ref hp0_machine, .ref hp0_others, .int p0_fault, .int p0_place, .int p0_next, .int p0_sawHead, .int p0_sawMemory, .int p0_sawStack, .int p0_sawBlocks])), (hp1, .inr (0, [.ref hp1_bytes, .int p1_size, .int p1_overflowed]))] := hD
  refine lv_if_ne (tgt := 21) hx hb dX3_reaches_6 (by decide) (fun c3 => ?_) (fun c3 => ?_)
  · replace h := if_f h c3
    refine lv_iconst (v := 1) hx hb dX3_reaches_21 (by decide) ?_
    refine lv_goto (tgt := 26) hx hb dX3_reaches_22 (by decide) ?_
    cases h
    exact ret _ _ _ _ _ (fun _ => 0) rfl rfl (hP.sub [1, 0] rfl) (hD.sub [1, 0] (by decide) rfl) hS dX3_reaches_26
  · replace h := if_t h c3
    refine lv_aload_n hx hb dX3_reaches_9 rfl (lv_at hl 0 rfl) ?_
    refine lv_iconst (v := 1) hx hb dX3_reaches_10 (by decide) ?_
    refine lv_aload_n hx hb dX3_reaches_11 rfl (lv_at hl 1 rfl) ?_
    refine getF (D := G) (ci := 0) (v := .int p1_size) (C := RX0) (T := TX0) (N := 3) hx hb hts inG_X0 hown hK.1 hP 1 rfl rfl 1 (by decide) tf_X0_1 (hts _ wd_c6bc4f1c) rfl dX3_reaches_12 ?_
    obtain ⟨u4, hu4, h⟩ := bd_t h
    refine cVi (wr := [(hp1, .inr (0, [.ref hp1_bytes, .int p1_size, .int p1_overflowed]))]) (As := [.int (1 : Int32), .int p1_size]) (rest := []) ⟨hx, hb, hml, hown, hts⟩ (c_X3_fail l G E hp0 hp0_story hp0_machine hp0_others p0_fault p0_place p0_next p0_sawHead p0_sawMemory p0_sawStack p0_sawBlocks (1 : Int32) p1_size u4.1 u4.2.1 u4.2.2 hu4) ok_X3_fail okv_X3_fail wd_c4b21be1 ⟨Nat.le_of_ble_eq_true rfl, Nat.le_of_ble_eq_true rfl⟩ hK hP hD hS hA [0] [1] rfl rfl (by decide) (by decide) (by decide) (va_recv hK.1 hP (ci := 3) (q0 := 0) rfl rfl) rfl hl.1 rfl (Nat.le_of_ble_eq_true rfl) dX3_reaches_15 ⟨Nat.le_of_ble_eq_true rfl, Nat.le_of_ble_eq_true rfl⟩ (fun H locs a5 hP hD hS => ?_)
    have hP : va_P G vwCl [(hp1, .inr (0, [.ref hp1_bytes, .int p1_size, .int p1_overflowed])), (hp0, .inr (3, [.ref hp0_story, .ref hp0_machine, .ref hp0_others, .int u4.2.1, .int u4.2.2, .int p0_next, .int p0_sawHead, .int p0_sawMemory, .int p0_sawStack, .int p0_sawBlocks]))] H := hP
    have hD : va_D A [(hp1, .inr (0, [.ref hp1_bytes, .int p1_size, .int p1_overflowed])), (hp0, .inr (3, [.ref hp0_story, .ref hp0_machine, .ref hp0_others, .int u4.2.1, .int u4.2.2, .int p0_next, .int p0_sawHead, .int p0_sawMemory, .int p0_sawStack, .int p0_sawBlocks]))] := hD
    refine lv_if_eq (tgt := 25) hx hb dX3_reaches_18 (by decide) (fun c6 => ?_) (fun c6 => ?_)
    · replace h := if_t h c6
      refine lv_iconst (v := 0) hx hb dX3_reaches_25 (by decide) ?_
      cases h
      exact ret _ _ _ _ _ (fun _ => 0) rfl rfl hP hD hS dX3_reaches_26
    · replace h := if_f h c6
      refine lv_iconst (v := 1) hx hb dX3_reaches_21 (by decide) ?_
      refine lv_goto (tgt := 26) hx hb dX3_reaches_22 (by decide) ?_
      cases h
      exact ret _ _ _ _ _ (fun _ => 0) rfl rfl hP hD hS dX3_reaches_26
def B_X3_readLetters_3 (i2 : Int32) (i3 : Int32) (p1_size : Int32) (p1_bytes : (Nat → Int32)) (rec3 : Int32 → Int32 → Int32 → Option (Int32 × Int32 × Int32)) (K65 : Int32 → Int32 → Int32 → Option (Int32 × Int32 × Int32)) (z1 : Int32) (z2 : Int32) (z3 : Int32) : Option (Int32 × Int32 × Int32) :=
  if (4 : Int32) ≤ z3 then (
  K65 z1 z2 z3)
  else
  bd (f_X3_reaches (i2 + z3) (1 : Int64) p1_size z1 z2) fun u5 =>
  if u5.1 = 0 then (
  some ((0 : Int32), u5.2.1, u5.2.2))
  else
  bd (f_X0_byteAt (i2 + z3) p1_bytes) fun u8 =>
  if u8 = ((i_ushr i3 ((24 : Int32) - ((8 : Int32) * z3))) &&& (255 : Int32)) then (
  bn (z3 + 1) fun x11 =>
  rec3 u5.2.1 u5.2.2 x11)
  else
  bd (f_X3_fail (2 : Int32) (i2 + z3)) fun u12 =>
  gbo u12.1 <|
  some (u12.1, u12.2.1, u12.2.2)
def L_X3_readLetters_3 (i2 : Int32) (i3 : Int32) (p1_size : Int32) (p1_bytes : (Nat → Int32)) (K65 : Int32 → Int32 → Int32 → Option (Int32 × Int32 × Int32)) : Nat → Int32 → Int32 → Int32 → Option (Int32 × Int32 × Int32)
    | 0, _, _, _ => none
    | n + 1, z1, z2, z3 => B_X3_readLetters_3 i2 i3 p1_size p1_bytes (fun z1 z2 z3 => L_X3_readLetters_3 i2 i3 p1_size p1_bytes K65 n z1 z2 z3) K65 z1 z2 z3
def f_X3_readLetters (N : Nat) (i2 : Int32) (i3 : Int32) (p1_size : Int32) (p0_fault : Int32) (p0_place : Int32) (p1_bytes : (Nat → Int32)) : Option (Int32 × Int32 × Int32) :=
  L_X3_readLetters_3 i2 i3 p1_size p1_bytes 
  (fun z1 z2 z3 =>
  some ((1 : Int32), z1, z2)) N p0_fault p0_place (0 : Int32)
abbrev w_rm_X3_readLetters : Room := { frames := 2, cells := 0, slots := 0, locals := 47 }
set_option maxHeartbeats 4000000 in
set_option maxRecDepth 100000 in
theorem c_X3_readLetters (l : Launch) (G : va_G) (E : ClassId × ClassId × ClassId) (N : Nat) (hp1 : Nat) (hp1_bytes : Nat) (p1_size : Int32) (p1_overflowed : Int32) (hp0 : Nat) (hp0_story : Nat) (hp0_machine : Nat) (hp0_others : Nat) (p0_fault : Int32) (p0_place : Int32) (p0_next : Int32) (p0_sawHead : Int32) (p0_sawMemory : Int32) (p0_sawStack : Int32) (p0_sawBlocks : Int32) (p1_bytes : (Nat → Int32)) (i2 : Int32) (i3 : Int32) (r : Int32) (o0 : Int32) (o1 : Int32) (h : f_X3_readLetters N i2 i3 p1_size p0_fault p0_place p1_bytes = some (r, o0, o1)) : MI l G E yX3_readLetters cX3_readLetters 5 .boolean w_rm_X3_readLetters [.ref hp0, .ref hp1, .int i2, .int i3] [(hp1, .inr (0, [.ref hp1_bytes, .int p1_size, .int p1_overflowed])), (hp0, .inr (3, [.ref hp0_story, .ref hp0_machine, .ref hp0_others, .int p0_fault, .int p0_place, .int p0_next, .int p0_sawHead, .int p0_sawMemory, .int p0_sawStack, .int p0_sawBlocks])), (hp1_bytes, .inl (E.1, 1200, .inl p1_bytes))] r (fun a => [(hp1, .inr (0, [.ref hp1_bytes, .int p1_size, .int p1_overflowed])), (hp0, .inr (3, [.ref hp0_story, .ref hp0_machine, .ref hp0_others, .int o0, .int o1, .int p0_next, .int p0_sawHead, .int p0_sawMemory, .int p0_sawStack, .int p0_sawBlocks])), (hp1_bytes, .inl (E.1, 1200, .inl p1_bytes))]) 0 0 := by
  refine MI_of (by decide) (Nat.le_of_ble_eq_true rfl) ?_
  intro p e s m args below meth c A Q hx hb hml hown hts hK hA hP hD hS ret ls hl
  replace hl : lv_has ls 5 [(0, .ref hp0), (1, .ref hp1), (2, .int i2), (3, .int i3)] := hl
  unfold f_X3_readLetters at h
  refine lv_iconst (v := 0) hx hb dX3_readLetters_0 (by decide) ?_
  refine lv_istore (lv' := [(4, .int (0 : Int32)), (0, .ref hp0), (1, .ref hp1), (2, .int i2), (3, .int i3)]) hx hb dX3_readLetters_1 hl (by decide) rfl (fun ls hl => ?_)
  have hL3 : ∀ (K65 : Int32 → Int32 → Int32 → Option (Int32 × Int32 × Int32)), (∀ (z1 : Int32) (z2 : Int32) (z3 : Int32), K65 z1 z2 z3 = some (r, o0, o1) → ∀ (H : Heap) (locs : List Loc) (ls : Array Slot), va_P G vwCl [(hp1, .inr (0, [.ref hp1_bytes, .int p1_size, .int p1_overflowed])), (hp0, .inr (3, [.ref hp0_story, .ref hp0_machine, .ref hp0_others, .int z1, .int z2, .int p0_next, .int p0_sawHead, .int p0_sawMemory, .int p0_sawStack, .int p0_sawBlocks])), (hp1_bytes, .inl (E.1, 1200, .inl p1_bytes))] H → va_D A [(hp1, .inr (0, [.ref hp1_bytes, .int p1_size, .int p1_overflowed])), (hp0, .inr (3, [.ref hp0_story, .ref hp0_machine, .ref hp0_others, .int z1, .int z2, .int p0_next, .int p0_sawHead, .int p0_sawMemory, .int p0_sawStack, .int p0_sawBlocks])), (hp1_bytes, .inl (E.1, 1200, .inl p1_bytes))] → va_S A s.heap H locs → lv_has ls 5 [] → W p l e w_rm_X3_readLetters s m args below meth c H locs 0 0 Q (F0 m 65 ls [])) → ∀ (n : Nat) (z1 : Int32) (z2 : Int32) (z3 : Int32), L_X3_readLetters_3 i2 i3 p1_size p1_bytes K65 n z1 z2 z3 = some (r, o0, o1) → ∀ (H : Heap) (locs : List Loc) (ls : Array Slot), va_P G vwCl [(hp1, .inr (0, [.ref hp1_bytes, .int p1_size, .int p1_overflowed])), (hp0, .inr (3, [.ref hp0_story, .ref hp0_machine, .ref hp0_others, .int z1, .int z2, .int p0_next, .int p0_sawHead, .int p0_sawMemory, .int p0_sawStack, .int p0_sawBlocks])), (hp1_bytes, .inl (E.1, 1200, .inl p1_bytes))] H → va_D A [(hp1, .inr (0, [.ref hp1_bytes, .int p1_size, .int p1_overflowed])), (hp0, .inr (3, [.ref hp0_story, .ref hp0_machine, .ref hp0_others, .int z1, .int z2, .int p0_next, .int p0_sawHead, .int p0_sawMemory, .int p0_sawStack, .int p0_sawBlocks])), (hp1_bytes, .inl (E.1, 1200, .inl p1_bytes))] → va_S A s.heap H locs → lv_has ls 5 [(0, .ref hp0), (1, .ref hp1), (2, .int i2), (3, .int i3), (4, .int z3)] → W p l e w_rm_X3_readLetters s m args below meth c H locs 0 0 Q (F0 m 3 ls []) := by
    intro K65 hK65 n
    induction n with
    | zero =>
      intro z1 z2 z3 h
      replace h : (none : Option (Int32 × Int32 × Int32)) = some (r, o0, o1) := h
      cases h
    | succ n ih =>
      intro z1 z2 z3 h H locs ls hP hD hS hl
      replace h : B_X3_readLetters_3 i2 i3 p1_size p1_bytes (fun z1 z2 z3 => L_X3_readLetters_3 i2 i3 p1_size p1_bytes K65 n z1 z2 z3) K65 z1 z2 z3 = some (r, o0, o1) := h
      obtain ⟨rec3, hrec3⟩ : ∃ f : Int32 → Int32 → Int32 → Option (Int32 × Int32 × Int32), f = (fun z1 z2 z3 => L_X3_readLetters_3 i2 i3 p1_size p1_bytes K65 n z1 z2 z3) := ⟨_, rfl⟩
      rw [← hrec3] at h
      unfold B_X3_readLetters_3 at h
      refine lv_iload hx hb dX3_readLetters_3 (lv_at hl 4 rfl) ?_
      refine lv_iconst (v := 4) hx hb dX3_readLetters_5 (by decide) ?_
      refine lv_icmp_ge (tgt := 65) hx hb dX3_readLetters_6 (by decide) (fun c4 => ?_) (fun c4 => ?_)
      · replace h := if_t h c4
        exact hK65 z1 z2 z3 h _ _ _ hP hD hS (lv_sub hl [] rfl)
      · replace h := if_f h c4
        refine lv_aload_n hx hb dX3_readLetters_9 rfl (lv_at hl 0 rfl) ?_
        refine lv_aload_n hx hb dX3_readLetters_10 rfl (lv_at hl 1 rfl) ?_
        refine lv_iload_n hx hb dX3_readLetters_11 rfl (lv_at hl 2 rfl) ?_
        refine lv_iload hx hb dX3_readLetters_12 (lv_at hl 4 rfl) ?_
        refine lv_iadd hx hb dX3_readLetters_14 ?_
        refine lv_lconst (v := 1) hx hb dX3_readLetters_15 (by decide) ?_
        obtain ⟨u5, hu5, h⟩ := bd_t h
        refine cVi (wr := [(hp1_bytes, .inl (E.1, 1200, .inl p1_bytes))]) (As := [.ref hp1, .int (i2 + z3), .long (1 : Int64)]) (rest := []) ⟨hx, hb, hml, hown, hts⟩ (c_X3_reaches l G E hp1 hp1_bytes p1_size p1_overflowed hp0 hp0_story hp0_machine hp0_others z1 z2 p0_next p0_sawHead p0_sawMemory p0_sawStack p0_sawBlocks (i2 + z3) (1 : Int64) u5.1 u5.2.1 u5.2.2 hu5) ok_X3_reaches okv_X3_reaches wd_4a1b47ad ⟨Nat.le_of_ble_eq_true rfl, Nat.le_of_ble_eq_true rfl⟩ hK hP hD hS hA [0, 1] [2] rfl rfl (by decide) (by decide) (by decide) (va_recv hK.1 hP (ci := 3) (q0 := 1) rfl rfl) rfl hl.1 rfl (Nat.le_of_ble_eq_true rfl) dX3_readLetters_16 ⟨Nat.le_of_ble_eq_true rfl, Nat.le_of_ble_eq_true rfl⟩ (fun H locs a6 hP hD hS => ?_)
        have hP : va_P G vwCl [(hp1_bytes, .inl (E.1, 1200, .inl p1_bytes)), (hp1, .inr (0, [.ref hp1_bytes, .int p1_size, .int p1_overflowed])), (hp0, .inr (3, [.ref hp0_story, .ref hp0_machine, .ref hp0_others, .int u5.2.1, .int u5.2.2, .int p0_next, .int p0_sawHead, .int p0_sawMemory, .int p0_sawStack, .int p0_sawBlocks]))] H := hP
        have hD : va_D A [(hp1_bytes, .inl (E.1, 1200, .inl p1_bytes)), (hp1, .inr (0, [.ref hp1_bytes, .int p1_size, .int p1_overflowed])), (hp0, .inr (3, [.ref hp0_story, .ref hp0_machine, .ref hp0_others, .int u5.2.1, .int u5.2.2, .int p0_next, .int p0_sawHead, .int p0_sawMemory, .int p0_sawStack, .int p0_sawBlocks]))] := hD
        refine lv_if_ne (tgt := 24) hx hb dX3_readLetters_19 (by decide) (fun c7 => ?_) (fun c7 => ?_)
        · replace h := if_f h c7
          refine lv_aload_n hx hb dX3_readLetters_24 rfl (lv_at hl 1 rfl) ?_
          refine lv_iload_n hx hb dX3_readLetters_25 rfl (lv_at hl 2 rfl) ?_
          refine lv_iload hx hb dX3_readLetters_26 (lv_at hl 4 rfl) ?_
          refine lv_iadd hx hb dX3_readLetters_28 ?_
          obtain ⟨u8, hu8, h⟩ := bd_t h
          refine cVi (wr := [(hp0, .inr (3, [.ref hp0_story, .ref hp0_machine, .ref hp0_others, .int u5.2.1, .int u5.2.2, .int p0_next, .int p0_sawHead, .int p0_sawMemory, .int p0_sawStack, .int p0_sawBlocks]))]) (As := [.int (i2 + z3)]) (rest := []) ⟨hx, hb, hml, hown, hts⟩ (c_X0_byteAt l G E hp1 hp1_bytes p1_size p1_overflowed p1_bytes (i2 + z3) u8 hu8) ok_X0_byteAt okv_X0_byteAt wd_bca33b46 ⟨Nat.le_of_ble_eq_true rfl, Nat.le_of_ble_eq_true rfl⟩ hK hP hD hS hA [1, 0] [2] rfl rfl (by decide) (by decide) (by decide) (va_recv hK.1 hP (ci := 0) (q0 := 1) rfl rfl) rfl hl.1 rfl (Nat.le_of_ble_eq_true rfl) dX3_readLetters_29 ⟨Nat.le_of_ble_eq_true rfl, Nat.le_of_ble_eq_true rfl⟩ (fun H locs a9 hP hD hS => ?_)
          have hP : va_P G vwCl [(hp0, .inr (3, [.ref hp0_story, .ref hp0_machine, .ref hp0_others, .int u5.2.1, .int u5.2.2, .int p0_next, .int p0_sawHead, .int p0_sawMemory, .int p0_sawStack, .int p0_sawBlocks])), (hp1, .inr (0, [.ref hp1_bytes, .int p1_size, .int p1_overflowed])), (hp1_bytes, .inl (E.1, 1200, .inl p1_bytes))] H := hP
          have hD : va_D A [(hp0, .inr (3, [.ref hp0_story, .ref hp0_machine, .ref hp0_others, .int u5.2.1, .int u5.2.2, .int p0_next, .int p0_sawHead, .int p0_sawMemory, .int p0_sawStack, .int p0_sawBlocks])), (hp1, .inr (0, [.ref hp1_bytes, .int p1_size, .int p1_overflowed])), (hp1_bytes, .inl (E.1, 1200, .inl p1_bytes))] := hD
          refine lv_iload_n hx hb dX3_readLetters_32 rfl (lv_at hl 3 rfl) ?_
          refine lv_bipush (v := 24) hx hb dX3_readLetters_33 (by decide) ?_
          refine lv_bipush (v := 8) hx hb dX3_readLetters_35 (by decide) ?_
          refine lv_iload hx hb dX3_readLetters_37 (lv_at hl 4 rfl) ?_
          refine lv_imul hx hb dX3_readLetters_39 ?_
          refine lv_isub hx hb dX3_readLetters_40 ?_
          refine lv_iushr (v := i_ushr i3 ((24 : Int32) - ((8 : Int32) * z3))) hx hb dX3_readLetters_41 rfl ?_
          refine lv_sipush (v := 255) hx hb dX3_readLetters_42 (by decide) ?_
          refine lv_iand hx hb dX3_readLetters_45 ?_
          refine lv_icmp_eq (tgt := 59) hx hb dX3_readLetters_46 (by decide) (fun c10 => ?_) (fun c10 => ?_)
          · replace h := if_t h c10
            obtain ⟨x11, ex11⟩ : ∃ y : Int32, y = z3 + 1 := ⟨_, rfl⟩
            replace h := bn_t h ex11
            refine lv_iinc (v := x11) (lv' := [(4, .int x11), (0, .ref hp0), (1, .ref hp1), (2, .int i2), (3, .int i3)]) hx hb dX3_readLetters_59 hl (k := 4) rfl (by rw [ex11]; rfl) (by decide) rfl (fun ls hl => ?_)
            refine lv_goto (tgt := 3) hx hb dX3_readLetters_62 (by decide) ?_
            exact ih u5.2.1 u5.2.2 x11 (by rw [hrec3] at h; exact h) _ _ _ (hP.sub [1, 0, 2] rfl) (hD.sub [1, 0, 2] (by decide) rfl) hS (lv_sub hl [1, 2, 3, 4, 0] rfl)
          · replace h := if_f h c10
            refine lv_aload_n hx hb dX3_readLetters_49 rfl (lv_at hl 0 rfl) ?_
            refine lv_iconst (v := 2) hx hb dX3_readLetters_50 (by decide) ?_
            refine lv_iload_n hx hb dX3_readLetters_51 rfl (lv_at hl 2 rfl) ?_
            refine lv_iload hx hb dX3_readLetters_52 (lv_at hl 4 rfl) ?_
            refine lv_iadd hx hb dX3_readLetters_54 ?_
            obtain ⟨u12, hu12, h⟩ := bd_t h
            refine cVi (wr := [(hp1, .inr (0, [.ref hp1_bytes, .int p1_size, .int p1_overflowed])), (hp1_bytes, .inl (E.1, 1200, .inl p1_bytes))]) (As := [.int (2 : Int32), .int (i2 + z3)]) (rest := []) ⟨hx, hb, hml, hown, hts⟩ (c_X3_fail l G E hp0 hp0_story hp0_machine hp0_others u5.2.1 u5.2.2 p0_next p0_sawHead p0_sawMemory p0_sawStack p0_sawBlocks (2 : Int32) (i2 + z3) u12.1 u12.2.1 u12.2.2 hu12) ok_X3_fail okv_X3_fail wd_c4b21be1 ⟨Nat.le_of_ble_eq_true rfl, Nat.le_of_ble_eq_true rfl⟩ hK hP hD hS hA [0] [1, 2] rfl rfl (by decide) (by decide) (by decide) (va_recv hK.1 hP (ci := 3) (q0 := 0) rfl rfl) rfl hl.1 rfl (Nat.le_of_ble_eq_true rfl) dX3_readLetters_55 ⟨Nat.le_of_ble_eq_true rfl, Nat.le_of_ble_eq_true rfl⟩ (fun H locs a13 hP hD hS => ?_)
            have hP : va_P G vwCl [(hp1, .inr (0, [.ref hp1_bytes, .int p1_size, .int p1_overflowed])), (hp1_bytes, .inl (E.1, 1200, .inl p1_bytes)), (hp0, .inr (3, [.ref hp0_story, .ref hp0_machine, .ref hp0_others, .int u12.2.1, .int u12.2.2, .int p0_next, .int p0_sawHead, .int p0_sawMemory, .int p0_sawStack, .int p0_sawBlocks]))] H := hP
            have hD : va_D A [(hp1, .inr (0, [.ref hp1_bytes, .int p1_size, .int p1_overflowed])), (hp1_bytes, .inl (E.1, 1200, .inl p1_bytes)), (hp0, .inr (3, [.ref hp0_story, .ref hp0_machine, .ref hp0_others, .int u12.2.1, .int u12.2.2, .int p0_next, .int p0_sawHead, .int p0_sawMemory, .int p0_sawStack, .int p0_sawBlocks]))] := hD
            obtain ⟨g14, h⟩ := gbo_t h
            cases h
            exact ret _ _ _ _ _ (fun _ => 0) rfl (bo_nar g14) (hP.sub [0, 2, 1] rfl) (hD.sub [0, 2, 1] (by decide) rfl) hS dX3_readLetters_58
        · replace h := if_t h c7
          refine lv_iconst (v := 0) hx hb dX3_readLetters_22 (by decide) ?_
          cases h
          exact ret _ _ _ _ _ (fun _ => 0) rfl rfl (hP.sub [1, 2, 0] rfl) (hD.sub [1, 2, 0] (by decide) rfl) hS dX3_readLetters_23
  refine hL3 _ (fun z1 z2 z3 h H locs ls hP hD hS hl => ?_) N p0_fault p0_place (0 : Int32) h _ _ _ hP hD hS (lv_sub hl [1, 2, 3, 4, 0] rfl)
  try dsimp only at h
  refine lv_iconst (v := 1) hx hb dX3_readLetters_65 (by decide) ?_
  cases h
  exact ret _ _ _ _ _ (fun _ => 0) rfl rfl hP hD hS dX3_readLetters_66
def f_X3_readWholeLength (p1_size : Int32) (p1_bytes : (Nat → Int32)) (p0_fault : Int32) (p0_place : Int32) : Option (Int32 × Int32 × Int32) :=
  bd (f_X0_fourAt (4 : Int32) p1_bytes) fun u1 =>
  if u1 = (p1_size - (8 : Int32)) then (
  some ((1 : Int32), p0_fault, p0_place))
  else
  bd (f_X3_fail (5 : Int32) (4 : Int32)) fun u4 =>
  if u4.1 = 0 then (
  some ((0 : Int32), u4.2.1, u4.2.2))
  else
  some ((1 : Int32), u4.2.1, u4.2.2)
abbrev w_rm_X3_readWholeLength : Room := { frames := 1, cells := 0, slots := 0, locals := 22 }
set_option maxHeartbeats 4000000 in
set_option maxRecDepth 100000 in
theorem c_X3_readWholeLength (l : Launch) (G : va_G) (E : ClassId × ClassId × ClassId) (hp1 : Nat) (hp1_bytes : Nat) (p1_size : Int32) (p1_overflowed : Int32) (p1_bytes : (Nat → Int32)) (hp0 : Nat) (hp0_story : Nat) (hp0_machine : Nat) (hp0_others : Nat) (p0_fault : Int32) (p0_place : Int32) (p0_next : Int32) (p0_sawHead : Int32) (p0_sawMemory : Int32) (p0_sawStack : Int32) (p0_sawBlocks : Int32) (r : Int32) (o0 : Int32) (o1 : Int32) (h : f_X3_readWholeLength p1_size p1_bytes p0_fault p0_place = some (r, o0, o1)) : MI l G E yX3_readWholeLength cX3_readWholeLength 2 .boolean w_rm_X3_readWholeLength [.ref hp0, .ref hp1] [(hp1, .inr (0, [.ref hp1_bytes, .int p1_size, .int p1_overflowed])), (hp1_bytes, .inl (E.1, 1200, .inl p1_bytes)), (hp0, .inr (3, [.ref hp0_story, .ref hp0_machine, .ref hp0_others, .int p0_fault, .int p0_place, .int p0_next, .int p0_sawHead, .int p0_sawMemory, .int p0_sawStack, .int p0_sawBlocks]))] r (fun a => [(hp1, .inr (0, [.ref hp1_bytes, .int p1_size, .int p1_overflowed])), (hp1_bytes, .inl (E.1, 1200, .inl p1_bytes)), (hp0, .inr (3, [.ref hp0_story, .ref hp0_machine, .ref hp0_others, .int o0, .int o1, .int p0_next, .int p0_sawHead, .int p0_sawMemory, .int p0_sawStack, .int p0_sawBlocks]))]) 0 0 := by
  refine MI_of (by decide) (Nat.le_of_ble_eq_true rfl) ?_
  intro p e s m args below meth c A Q hx hb hml hown hts hK hA hP hD hS ret ls hl
  replace hl : lv_has ls 2 [(0, .ref hp0), (1, .ref hp1)] := hl
  unfold f_X3_readWholeLength at h
  refine lv_aload_n hx hb dX3_readWholeLength_0 rfl (lv_at hl 1 rfl) ?_
  refine lv_iconst (v := 4) hx hb dX3_readWholeLength_1 (by decide) ?_
  obtain ⟨u1, hu1, h⟩ := bd_t h
  refine cVi (wr := [(hp0, .inr (3, [.ref hp0_story, .ref hp0_machine, .ref hp0_others, .int p0_fault, .int p0_place, .int p0_next, .int p0_sawHead, .int p0_sawMemory, .int p0_sawStack, .int p0_sawBlocks]))]) (As := [.int (4 : Int32)]) (rest := []) ⟨hx, hb, hml, hown, hts⟩ (c_X0_fourAt l G E hp1 hp1_bytes p1_size p1_overflowed p1_bytes (4 : Int32) u1 hu1) ok_X0_fourAt okv_X0_fourAt wd_6a67b9d3 ⟨Nat.le_of_ble_eq_true rfl, Nat.le_of_ble_eq_true rfl⟩ hK hP hD hS hA [0, 1] [2] rfl rfl (by decide) (by decide) (by decide) (va_recv hK.1 hP (ci := 0) (q0 := 0) rfl rfl) rfl hl.1 rfl (Nat.le_of_ble_eq_true rfl) dX3_readWholeLength_2 ⟨Nat.le_of_ble_eq_true rfl, Nat.le_of_ble_eq_true rfl⟩ (fun H locs a2 hP hD hS => ?_)
  have hP : va_P G vwCl [(hp0, .inr (3, [.ref hp0_story, .ref hp0_machine, .ref hp0_others, .int p0_fault, .int p0_place, .int p0_next, .int p0_sawHead, .int p0_sawMemory, .int p0_sawStack, .int p0_sawBlocks])), (hp1, .inr (0, [.ref hp1_bytes, .int p1_size, .int p1_overflowed])), (hp1_bytes, .inl (E.1, 1200, .inl p1_bytes))] H := hP
  have hD : va_D A [(hp0, .inr (3, [.ref hp0_story, .ref hp0_machine, .ref hp0_others, .int p0_fault, .int p0_place, .int p0_next, .int p0_sawHead, .int p0_sawMemory, .int p0_sawStack, .int p0_sawBlocks])), (hp1, .inr (0, [.ref hp1_bytes, .int p1_size, .int p1_overflowed])), (hp1_bytes, .inl (E.1, 1200, .inl p1_bytes))] := hD
  refine lv_aload_n hx hb dX3_readWholeLength_5 rfl (lv_at hl 1 rfl) ?_
  refine getF (D := G) (ci := 0) (v := .int p1_size) (C := RX0) (T := TX0) (N := 3) hx hb hts inG_X0 hown hK.1 hP 1 rfl rfl 1 (by decide) tf_X0_1 (hts _ wd_c6bc4f1c) rfl dX3_readWholeLength_6 ?_
  refine lv_bipush (v := 8) hx hb dX3_readWholeLength_9 (by decide) ?_
  refine lv_isub hx hb dX3_readWholeLength_11 ?_
  refine lv_icmp_eq (tgt := 24) hx hb dX3_readWholeLength_12 (by decide) (fun c3 => ?_) (fun c3 => ?_)
  · replace h := if_t h c3
    refine lv_iconst (v := 1) hx hb dX3_readWholeLength_24 (by decide) ?_
    refine lv_goto (tgt := 29) hx hb dX3_readWholeLength_25 (by decide) ?_
    cases h
    exact ret _ _ _ _ _ (fun _ => 0) rfl rfl (hP.sub [1, 2, 0] rfl) (hD.sub [1, 2, 0] (by decide) rfl) hS dX3_readWholeLength_29
  · replace h := if_f h c3
    refine lv_aload_n hx hb dX3_readWholeLength_15 rfl (lv_at hl 0 rfl) ?_
    refine lv_iconst (v := 5) hx hb dX3_readWholeLength_16 (by decide) ?_
    refine lv_iconst (v := 4) hx hb dX3_readWholeLength_17 (by decide) ?_
    obtain ⟨u4, hu4, h⟩ := bd_t h
    refine cVi (wr := [(hp1, .inr (0, [.ref hp1_bytes, .int p1_size, .int p1_overflowed])), (hp1_bytes, .inl (E.1, 1200, .inl p1_bytes))]) (As := [.int (5 : Int32), .int (4 : Int32)]) (rest := []) ⟨hx, hb, hml, hown, hts⟩ (c_X3_fail l G E hp0 hp0_story hp0_machine hp0_others p0_fault p0_place p0_next p0_sawHead p0_sawMemory p0_sawStack p0_sawBlocks (5 : Int32) (4 : Int32) u4.1 u4.2.1 u4.2.2 hu4) ok_X3_fail okv_X3_fail wd_c4b21be1 ⟨Nat.le_of_ble_eq_true rfl, Nat.le_of_ble_eq_true rfl⟩ hK hP hD hS hA [0] [1, 2] rfl rfl (by decide) (by decide) (by decide) (va_recv hK.1 hP (ci := 3) (q0 := 0) rfl rfl) rfl hl.1 rfl (Nat.le_of_ble_eq_true rfl) dX3_readWholeLength_18 ⟨Nat.le_of_ble_eq_true rfl, Nat.le_of_ble_eq_true rfl⟩ (fun H locs a5 hP hD hS => ?_)
    have hP : va_P G vwCl [(hp1, .inr (0, [.ref hp1_bytes, .int p1_size, .int p1_overflowed])), (hp1_bytes, .inl (E.1, 1200, .inl p1_bytes)), (hp0, .inr (3, [.ref hp0_story, .ref hp0_machine, .ref hp0_others, .int u4.2.1, .int u4.2.2, .int p0_next, .int p0_sawHead, .int p0_sawMemory, .int p0_sawStack, .int p0_sawBlocks]))] H := hP
    have hD : va_D A [(hp1, .inr (0, [.ref hp1_bytes, .int p1_size, .int p1_overflowed])), (hp1_bytes, .inl (E.1, 1200, .inl p1_bytes)), (hp0, .inr (3, [.ref hp0_story, .ref hp0_machine, .ref hp0_others, .int u4.2.1, .int u4.2.2, .int p0_next, .int p0_sawHead, .int p0_sawMemory, .int p0_sawStack, .int p0_sawBlocks]))] := hD
    refine lv_if_eq (tgt := 28) hx hb dX3_readWholeLength_21 (by decide) (fun c6 => ?_) (fun c6 => ?_)
    · replace h := if_t h c6
      refine lv_iconst (v := 0) hx hb dX3_readWholeLength_28 (by decide) ?_
      cases h
      exact ret _ _ _ _ _ (fun _ => 0) rfl rfl hP hD hS dX3_readWholeLength_29
    · replace h := if_f h c6
      refine lv_iconst (v := 1) hx hb dX3_readWholeLength_24 (by decide) ?_
      refine lv_goto (tgt := 29) hx hb dX3_readWholeLength_25 (by decide) ?_
      cases h
      exact ret _ _ _ _ _ (fun _ => 0) rfl rfl hP hD hS dX3_readWholeLength_29
def f_X3_readFront (N : Nat) (p1_size : Int32) (p0_fault : Int32) (p0_place : Int32) (p1_bytes : (Nat → Int32)) : Option (Int32 × Int32 × Int32) :=
  bd (f_X3_readLetters N (0 : Int32) (1179603533 : Int32) p1_size p0_fault p0_place p1_bytes) fun u1 =>
  if u1.1 = 0 then (
  some ((0 : Int32), u1.2.1, u1.2.2))
  else
  bd (f_X3_reaches (4 : Int32) (4 : Int64) p1_size u1.2.1 u1.2.2) fun u4 =>
  if u4.1 = 0 then (
  some ((0 : Int32), u4.2.1, u4.2.2))
  else
  bd (f_X3_readWholeLength p1_size p1_bytes u4.2.1 u4.2.2) fun u7 =>
  if u7.1 = 0 then (
  some ((0 : Int32), u7.2.1, u7.2.2))
  else
  bd (f_X3_readLetters N (8 : Int32) (1229347411 : Int32) p1_size u7.2.1 u7.2.2 p1_bytes) fun u10 =>
  if u10.1 = 0 then (
  some ((0 : Int32), u10.2.1, u10.2.2))
  else
  some ((1 : Int32), u10.2.1, u10.2.2)
abbrev w_rm_X3_readFront : Room := { frames := 3, cells := 0, slots := 0, locals := 71 }
set_option maxHeartbeats 4000000 in
set_option maxRecDepth 100000 in
theorem c_X3_readFront (l : Launch) (G : va_G) (E : ClassId × ClassId × ClassId) (N : Nat) (hp1 : Nat) (hp1_bytes : Nat) (p1_size : Int32) (p1_overflowed : Int32) (hp0 : Nat) (hp0_story : Nat) (hp0_machine : Nat) (hp0_others : Nat) (p0_fault : Int32) (p0_place : Int32) (p0_next : Int32) (p0_sawHead : Int32) (p0_sawMemory : Int32) (p0_sawStack : Int32) (p0_sawBlocks : Int32) (p1_bytes : (Nat → Int32)) (r : Int32) (o0 : Int32) (o1 : Int32) (h : f_X3_readFront N p1_size p0_fault p0_place p1_bytes = some (r, o0, o1)) : MI l G E yX3_readFront cX3_readFront 2 .boolean w_rm_X3_readFront [.ref hp0, .ref hp1] [(hp1, .inr (0, [.ref hp1_bytes, .int p1_size, .int p1_overflowed])), (hp0, .inr (3, [.ref hp0_story, .ref hp0_machine, .ref hp0_others, .int p0_fault, .int p0_place, .int p0_next, .int p0_sawHead, .int p0_sawMemory, .int p0_sawStack, .int p0_sawBlocks])), (hp1_bytes, .inl (E.1, 1200, .inl p1_bytes))] r (fun a => [(hp1, .inr (0, [.ref hp1_bytes, .int p1_size, .int p1_overflowed])), (hp0, .inr (3, [.ref hp0_story, .ref hp0_machine, .ref hp0_others, .int o0, .int o1, .int p0_next, .int p0_sawHead, .int p0_sawMemory, .int p0_sawStack, .int p0_sawBlocks])), (hp1_bytes, .inl (E.1, 1200, .inl p1_bytes))]) 0 0 := by
  refine MI_of (by decide) (Nat.le_of_ble_eq_true rfl) ?_
  intro p e s m args below meth c A Q hx hb hml hown hts hK hA hP hD hS ret ls hl
  replace hl : lv_has ls 2 [(0, .ref hp0), (1, .ref hp1)] := hl
  unfold f_X3_readFront at h
  refine lv_aload_n hx hb dX3_readFront_0 rfl (lv_at hl 0 rfl) ?_
  refine lv_aload_n hx hb dX3_readFront_1 rfl (lv_at hl 1 rfl) ?_
  refine lv_iconst (v := 0) hx hb dX3_readFront_2 (by decide) ?_
  refine lv_ldc hx hb hown (hts _ wd_bb71b3cd) dX3_readFront_3 ?_
  obtain ⟨u1, hu1, h⟩ := bd_t h
  refine cVi (wr := []) (As := [.ref hp1, .int (0 : Int32), .int (1179603533 : Int32)]) (rest := []) ⟨hx, hb, hml, hown, hts⟩ (c_X3_readLetters l G E N hp1 hp1_bytes p1_size p1_overflowed hp0 hp0_story hp0_machine hp0_others p0_fault p0_place p0_next p0_sawHead p0_sawMemory p0_sawStack p0_sawBlocks p1_bytes (0 : Int32) (1179603533 : Int32) u1.1 u1.2.1 u1.2.2 hu1) ok_X3_readLetters okv_X3_readLetters wd_1fe8d262 ⟨Nat.le_of_ble_eq_true rfl, Nat.le_of_ble_eq_true rfl⟩ hK hP hD hS hA [0, 1, 2] [] rfl rfl (by decide) (by decide) (by decide) (va_recv hK.1 hP (ci := 3) (q0 := 1) rfl rfl) rfl hl.1 rfl (Nat.le_of_ble_eq_true rfl) dX3_readFront_5 ⟨Nat.le_of_ble_eq_true rfl, Nat.le_of_ble_eq_true rfl⟩ (fun H locs a2 hP hD hS => ?_)
  have hP : va_P G vwCl [(hp1, .inr (0, [.ref hp1_bytes, .int p1_size, .int p1_overflowed])), (hp0, .inr (3, [.ref hp0_story, .ref hp0_machine, .ref hp0_others, .int u1.2.1, .int u1.2.2, .int p0_next, .int p0_sawHead, .int p0_sawMemory, .int p0_sawStack, .int p0_sawBlocks])), (hp1_bytes, .inl (E.1, 1200, .inl p1_bytes))] H := hP
  have hD : va_D A [(hp1, .inr (0, [.ref hp1_bytes, .int p1_size, .int p1_overflowed])), (hp0, .inr (3, [.ref hp0_story, .ref hp0_machine, .ref hp0_others, .int u1.2.1, .int u1.2.2, .int p0_next, .int p0_sawHead, .int p0_sawMemory, .int p0_sawStack, .int p0_sawBlocks])), (hp1_bytes, .inl (E.1, 1200, .inl p1_bytes))] := hD
  refine lv_if_eq (tgt := 47) hx hb dX3_readFront_8 (by decide) (fun c3 => ?_) (fun c3 => ?_)
  · replace h := if_t h c3
    refine lv_iconst (v := 0) hx hb dX3_readFront_47 (by decide) ?_
    cases h
    exact ret _ _ _ _ _ (fun _ => 0) rfl rfl hP hD hS dX3_readFront_48
  · replace h := if_f h c3
    refine lv_aload_n hx hb dX3_readFront_11 rfl (lv_at hl 0 rfl) ?_
    refine lv_aload_n hx hb dX3_readFront_12 rfl (lv_at hl 1 rfl) ?_
    refine lv_iconst (v := 4) hx hb dX3_readFront_13 (by decide) ?_
    refine lv_ldc2 hx hb hown (hts _ wd_327efb4f) dX3_readFront_14 ?_
    obtain ⟨u4, hu4, h⟩ := bd_t h
    refine cVi (wr := [(hp1_bytes, .inl (E.1, 1200, .inl p1_bytes))]) (As := [.ref hp1, .int (4 : Int32), .long (4 : Int64)]) (rest := []) ⟨hx, hb, hml, hown, hts⟩ (c_X3_reaches l G E hp1 hp1_bytes p1_size p1_overflowed hp0 hp0_story hp0_machine hp0_others u1.2.1 u1.2.2 p0_next p0_sawHead p0_sawMemory p0_sawStack p0_sawBlocks (4 : Int32) (4 : Int64) u4.1 u4.2.1 u4.2.2 hu4) ok_X3_reaches okv_X3_reaches wd_4a1b47ad ⟨Nat.le_of_ble_eq_true rfl, Nat.le_of_ble_eq_true rfl⟩ hK hP hD hS hA [0, 1] [2] rfl rfl (by decide) (by decide) (by decide) (va_recv hK.1 hP (ci := 3) (q0 := 1) rfl rfl) rfl hl.1 rfl (Nat.le_of_ble_eq_true rfl) dX3_readFront_17 ⟨Nat.le_of_ble_eq_true rfl, Nat.le_of_ble_eq_true rfl⟩ (fun H locs a5 hP hD hS => ?_)
    have hP : va_P G vwCl [(hp1_bytes, .inl (E.1, 1200, .inl p1_bytes)), (hp1, .inr (0, [.ref hp1_bytes, .int p1_size, .int p1_overflowed])), (hp0, .inr (3, [.ref hp0_story, .ref hp0_machine, .ref hp0_others, .int u4.2.1, .int u4.2.2, .int p0_next, .int p0_sawHead, .int p0_sawMemory, .int p0_sawStack, .int p0_sawBlocks]))] H := hP
    have hD : va_D A [(hp1_bytes, .inl (E.1, 1200, .inl p1_bytes)), (hp1, .inr (0, [.ref hp1_bytes, .int p1_size, .int p1_overflowed])), (hp0, .inr (3, [.ref hp0_story, .ref hp0_machine, .ref hp0_others, .int u4.2.1, .int u4.2.2, .int p0_next, .int p0_sawHead, .int p0_sawMemory, .int p0_sawStack, .int p0_sawBlocks]))] := hD
    refine lv_if_eq (tgt := 47) hx hb dX3_readFront_20 (by decide) (fun c6 => ?_) (fun c6 => ?_)
    · replace h := if_t h c6
      refine lv_iconst (v := 0) hx hb dX3_readFront_47 (by decide) ?_
      cases h
      exact ret _ _ _ _ _ (fun _ => 0) rfl rfl (hP.sub [1, 2, 0] rfl) (hD.sub [1, 2, 0] (by decide) rfl) hS dX3_readFront_48
    · replace h := if_f h c6
      refine lv_aload_n hx hb dX3_readFront_23 rfl (lv_at hl 0 rfl) ?_
      refine lv_aload_n hx hb dX3_readFront_24 rfl (lv_at hl 1 rfl) ?_
      obtain ⟨u7, hu7, h⟩ := bd_t h
      refine cVi (wr := []) (As := [.ref hp1]) (rest := []) ⟨hx, hb, hml, hown, hts⟩ (c_X3_readWholeLength l G E hp1 hp1_bytes p1_size p1_overflowed p1_bytes hp0 hp0_story hp0_machine hp0_others u4.2.1 u4.2.2 p0_next p0_sawHead p0_sawMemory p0_sawStack p0_sawBlocks u7.1 u7.2.1 u7.2.2 hu7) ok_X3_readWholeLength okv_X3_readWholeLength wd_3c74935d ⟨Nat.le_of_ble_eq_true rfl, Nat.le_of_ble_eq_true rfl⟩ hK hP hD hS hA [1, 0, 2] [] rfl rfl (by decide) (by decide) (by decide) (va_recv hK.1 hP (ci := 3) (q0 := 2) rfl rfl) rfl hl.1 rfl (Nat.le_of_ble_eq_true rfl) dX3_readFront_25 ⟨Nat.le_of_ble_eq_true rfl, Nat.le_of_ble_eq_true rfl⟩ (fun H locs a8 hP hD hS => ?_)
      have hP : va_P G vwCl [(hp1, .inr (0, [.ref hp1_bytes, .int p1_size, .int p1_overflowed])), (hp1_bytes, .inl (E.1, 1200, .inl p1_bytes)), (hp0, .inr (3, [.ref hp0_story, .ref hp0_machine, .ref hp0_others, .int u7.2.1, .int u7.2.2, .int p0_next, .int p0_sawHead, .int p0_sawMemory, .int p0_sawStack, .int p0_sawBlocks]))] H := hP
      have hD : va_D A [(hp1, .inr (0, [.ref hp1_bytes, .int p1_size, .int p1_overflowed])), (hp1_bytes, .inl (E.1, 1200, .inl p1_bytes)), (hp0, .inr (3, [.ref hp0_story, .ref hp0_machine, .ref hp0_others, .int u7.2.1, .int u7.2.2, .int p0_next, .int p0_sawHead, .int p0_sawMemory, .int p0_sawStack, .int p0_sawBlocks]))] := hD
      refine lv_if_eq (tgt := 47) hx hb dX3_readFront_28 (by decide) (fun c9 => ?_) (fun c9 => ?_)
      · replace h := if_t h c9
        refine lv_iconst (v := 0) hx hb dX3_readFront_47 (by decide) ?_
        cases h
        exact ret _ _ _ _ _ (fun _ => 0) rfl rfl (hP.sub [0, 2, 1] rfl) (hD.sub [0, 2, 1] (by decide) rfl) hS dX3_readFront_48
      · replace h := if_f h c9
        refine lv_aload_n hx hb dX3_readFront_31 rfl (lv_at hl 0 rfl) ?_
        refine lv_aload_n hx hb dX3_readFront_32 rfl (lv_at hl 1 rfl) ?_
        refine lv_bipush (v := 8) hx hb dX3_readFront_33 (by decide) ?_
        refine lv_ldc hx hb hown (hts _ wd_91abf336) dX3_readFront_35 ?_
        obtain ⟨u10, hu10, h⟩ := bd_t h
        refine cVi (wr := []) (As := [.ref hp1, .int (8 : Int32), .int (1229347411 : Int32)]) (rest := []) ⟨hx, hb, hml, hown, hts⟩ (c_X3_readLetters l G E N hp1 hp1_bytes p1_size p1_overflowed hp0 hp0_story hp0_machine hp0_others u7.2.1 u7.2.2 p0_next p0_sawHead p0_sawMemory p0_sawStack p0_sawBlocks p1_bytes (8 : Int32) (1229347411 : Int32) u10.1 u10.2.1 u10.2.2 hu10) ok_X3_readLetters okv_X3_readLetters wd_1fe8d262 ⟨Nat.le_of_ble_eq_true rfl, Nat.le_of_ble_eq_true rfl⟩ hK hP hD hS hA [0, 2, 1] [] rfl rfl (by decide) (by decide) (by decide) (va_recv hK.1 hP (ci := 3) (q0 := 2) rfl rfl) rfl hl.1 rfl (Nat.le_of_ble_eq_true rfl) dX3_readFront_37 ⟨Nat.le_of_ble_eq_true rfl, Nat.le_of_ble_eq_true rfl⟩ (fun H locs a11 hP hD hS => ?_)
        have hP : va_P G vwCl [(hp1, .inr (0, [.ref hp1_bytes, .int p1_size, .int p1_overflowed])), (hp0, .inr (3, [.ref hp0_story, .ref hp0_machine, .ref hp0_others, .int u10.2.1, .int u10.2.2, .int p0_next, .int p0_sawHead, .int p0_sawMemory, .int p0_sawStack, .int p0_sawBlocks])), (hp1_bytes, .inl (E.1, 1200, .inl p1_bytes))] H := hP
        have hD : va_D A [(hp1, .inr (0, [.ref hp1_bytes, .int p1_size, .int p1_overflowed])), (hp0, .inr (3, [.ref hp0_story, .ref hp0_machine, .ref hp0_others, .int u10.2.1, .int u10.2.2, .int p0_next, .int p0_sawHead, .int p0_sawMemory, .int p0_sawStack, .int p0_sawBlocks])), (hp1_bytes, .inl (E.1, 1200, .inl p1_bytes))] := hD
        refine lv_if_eq (tgt := 47) hx hb dX3_readFront_40 (by decide) (fun c12 => ?_) (fun c12 => ?_)
        · replace h := if_t h c12
          refine lv_iconst (v := 0) hx hb dX3_readFront_47 (by decide) ?_
          cases h
          exact ret _ _ _ _ _ (fun _ => 0) rfl rfl hP hD hS dX3_readFront_48
        · replace h := if_f h c12
          refine lv_iconst (v := 1) hx hb dX3_readFront_43 (by decide) ?_
          refine lv_goto (tgt := 48) hx hb dX3_readFront_44 (by decide) ?_
          cases h
          exact ret _ _ _ _ _ (fun _ => 0) rfl rfl hP hD hS dX3_readFront_48
def f_X3_isKnown (i0 : Int32) : Option (Int32) :=
  if i0 = (1229351012 : Int32) then (
  some ((1 : Int32)))
  else
  if i0 = (1129145709 : Int32) then (
  some ((1 : Int32)))
  else
  if i0 = (1400138611 : Int32) then (
  some ((1 : Int32)))
  else
  if i0 = (1296133228 : Int32) then (
  some ((1 : Int32)))
  else
  some ((0 : Int32))
abbrev w_rm_X3_isKnown : Room := { frames := 0, cells := 0, slots := 0, locals := 0 }
set_option maxHeartbeats 4000000 in
set_option maxRecDepth 100000 in
theorem c_X3_isKnown (l : Launch) (G : va_G) (E : ClassId × ClassId × ClassId) (i0 : Int32) (r : Int32) (h : f_X3_isKnown i0 = some (r)) : MI l G E yX3_isKnown cX3_isKnown 1 .boolean w_rm_X3_isKnown [.int i0] [] r (fun a => []) 0 0 := by
  refine MI_of (by decide) (Nat.le_of_ble_eq_true rfl) ?_
  intro p e s m args below meth c A Q hx hb hml hown hts hK hA hP hD hS ret ls hl
  replace hl : lv_has ls 1 [(0, .int i0)] := hl
  unfold f_X3_isKnown at h
  refine lv_iload_n hx hb dX3_isKnown_0 rfl (lv_at hl 0 rfl) ?_
  refine lv_ldc hx hb hown (hts _ wd_ad4decb1) dX3_isKnown_1 ?_
  refine lv_icmp_eq (tgt := 24) hx hb dX3_isKnown_3 (by decide) (fun c1 => ?_) (fun c1 => ?_)
  · replace h := if_t h c1
    refine lv_iconst (v := 1) hx hb dX3_isKnown_24 (by decide) ?_
    refine lv_goto (tgt := 29) hx hb dX3_isKnown_25 (by decide) ?_
    cases h
    exact ret _ _ _ _ _ (fun _ => 0) rfl rfl hP hD hS dX3_isKnown_29
  · replace h := if_f h c1
    refine lv_iload_n hx hb dX3_isKnown_6 rfl (lv_at hl 0 rfl) ?_
    refine lv_ldc hx hb hown (hts _ wd_55d3bb0d) dX3_isKnown_7 ?_
    refine lv_icmp_eq (tgt := 24) hx hb dX3_isKnown_9 (by decide) (fun c2 => ?_) (fun c2 => ?_)
    · replace h := if_t h c2
      refine lv_iconst (v := 1) hx hb dX3_isKnown_24 (by decide) ?_
      refine lv_goto (tgt := 29) hx hb dX3_isKnown_25 (by decide) ?_
      cases h
      exact ret _ _ _ _ _ (fun _ => 0) rfl rfl hP hD hS dX3_isKnown_29
    · replace h := if_f h c2
      refine lv_iload_n hx hb dX3_isKnown_12 rfl (lv_at hl 0 rfl) ?_
      refine lv_ldc hx hb hown (hts _ wd_f0ab0517) dX3_isKnown_13 ?_
      refine lv_icmp_eq (tgt := 24) hx hb dX3_isKnown_15 (by decide) (fun c3 => ?_) (fun c3 => ?_)
      · replace h := if_t h c3
        refine lv_iconst (v := 1) hx hb dX3_isKnown_24 (by decide) ?_
        refine lv_goto (tgt := 29) hx hb dX3_isKnown_25 (by decide) ?_
        cases h
        exact ret _ _ _ _ _ (fun _ => 0) rfl rfl hP hD hS dX3_isKnown_29
      · replace h := if_f h c3
        refine lv_iload_n hx hb dX3_isKnown_18 rfl (lv_at hl 0 rfl) ?_
        refine lv_ldc hx hb hown (hts _ wd_75545394) dX3_isKnown_19 ?_
        refine lv_icmp_ne (tgt := 28) hx hb dX3_isKnown_21 (by decide) (fun c4 => ?_) (fun c4 => ?_)
        · replace h := if_f h c4
          refine lv_iconst (v := 0) hx hb dX3_isKnown_28 (by decide) ?_
          cases h
          exact ret _ _ _ _ _ (fun _ => 0) rfl rfl hP hD hS dX3_isKnown_29
        · replace h := if_t h c4
          refine lv_iconst (v := 1) hx hb dX3_isKnown_24 (by decide) ?_
          refine lv_goto (tgt := 29) hx hb dX3_isKnown_25 (by decide) ?_
          cases h
          exact ret _ _ _ _ _ (fun _ => 0) rfl rfl hP hD hS dX3_isKnown_29
def f_X3_lengthIsRight (i0 : Int32) (i1 : Int32) : Option (Int32) :=
  if i0 = (1129145709 : Int32) then (
  if i1 < (4 : Int32) then (
  some ((0 : Int32)))
  else
  some ((1 : Int32)))
  else if i0 = (1229351012 : Int32) then (
  if i1 = (16 : Int32) then (
  some ((1 : Int32)))
  else
  some ((0 : Int32)))
  else if i0 = (1296133228 : Int32) then (
  if i1 < (12 : Int32) then (
  some ((0 : Int32)))
  else
  if (68 : Int32) < i1 then (
  some ((0 : Int32)))
  else
  bn (i_rem i1 (8 : Int32)) fun x8 =>
  if x8 = (4 : Int32) then (
  some ((1 : Int32)))
  else
  some ((0 : Int32)))
  else if i0 = (1400138611 : Int32) then (
  if i1 < 0 then (
  some ((0 : Int32)))
  else
  if (160 : Int32) < i1 then (
  some ((0 : Int32)))
  else
  bn (i_rem i1 (4 : Int32)) fun x13 =>
  if x13 = 0 then (
  some ((1 : Int32)))
  else
  some ((0 : Int32)))
  else 
  if i1 < 0 then (
  some ((0 : Int32)))
  else
  some ((1 : Int32))
abbrev w_rm_X3_lengthIsRight : Room := { frames := 0, cells := 0, slots := 0, locals := 0 }
set_option maxHeartbeats 4000000 in
set_option maxRecDepth 100000 in
theorem c_X3_lengthIsRight (l : Launch) (G : va_G) (E : ClassId × ClassId × ClassId) (i0 : Int32) (i1 : Int32) (r : Int32) (h : f_X3_lengthIsRight i0 i1 = some (r)) : MI l G E yX3_lengthIsRight cX3_lengthIsRight 2 .boolean w_rm_X3_lengthIsRight [.int i0, .int i1] [] r (fun a => []) 0 0 := by
  refine MI_of (by decide) (Nat.le_of_ble_eq_true rfl) ?_
  intro p e s m args below meth c A Q hx hb hml hown hts hK hA hP hD hS ret ls hl
  replace hl : lv_has ls 2 [(0, .int i0), (1, .int i1)] := hl
  unfold f_X3_lengthIsRight at h
  refine lv_iload_n hx hb dX3_lengthIsRight_0 rfl (lv_at hl 0 rfl) ?_
  by_cases s1 : i0 = (1129145709 : Int32)
  · replace h := if_t h s1
    refine lv_lookup (off := 55) (tgt := 56) hx hb dX3_lengthIsRight_1 (by decide) (by rw [s1]; decide) (by decide) ?_
    refine lv_iload_n hx hb dX3_lengthIsRight_56 rfl (lv_at hl 1 rfl) ?_
    refine lv_iconst (v := 4) hx hb dX3_lengthIsRight_57 (by decide) ?_
    refine lv_icmp_lt (tgt := 65) hx hb dX3_lengthIsRight_58 (by decide) (fun c2 => ?_) (fun c2 => ?_)
    · replace h := if_t h c2
      refine lv_iconst (v := 0) hx hb dX3_lengthIsRight_65 (by decide) ?_
      cases h
      exact ret _ _ _ _ _ (fun _ => 0) rfl rfl hP hD hS dX3_lengthIsRight_66
    · replace h := if_f h c2
      refine lv_iconst (v := 1) hx hb dX3_lengthIsRight_61 (by decide) ?_
      refine lv_goto (tgt := 66) hx hb dX3_lengthIsRight_62 (by decide) ?_
      cases h
      exact ret _ _ _ _ _ (fun _ => 0) rfl rfl hP hD hS dX3_lengthIsRight_66
  · replace h := if_f h s1
    by_cases s3 : i0 = (1229351012 : Int32)
    · replace h := if_t h s3
      refine lv_lookup (off := 43) (tgt := 44) hx hb dX3_lengthIsRight_1 (by decide) (by rw [s3]; decide) (by decide) ?_
      refine lv_iload_n hx hb dX3_lengthIsRight_44 rfl (lv_at hl 1 rfl) ?_
      refine lv_bipush (v := 16) hx hb dX3_lengthIsRight_45 (by decide) ?_
      refine lv_icmp_ne (tgt := 54) hx hb dX3_lengthIsRight_47 (by decide) (fun c4 => ?_) (fun c4 => ?_)
      · replace h := if_f h c4
        refine lv_iconst (v := 0) hx hb dX3_lengthIsRight_54 (by decide) ?_
        cases h
        exact ret _ _ _ _ _ (fun _ => 0) rfl rfl hP hD hS dX3_lengthIsRight_55
      · replace h := if_t h c4
        refine lv_iconst (v := 1) hx hb dX3_lengthIsRight_50 (by decide) ?_
        refine lv_goto (tgt := 55) hx hb dX3_lengthIsRight_51 (by decide) ?_
        cases h
        exact ret _ _ _ _ _ (fun _ => 0) rfl rfl hP hD hS dX3_lengthIsRight_55
    · replace h := if_f h s3
      by_cases s5 : i0 = (1296133228 : Int32)
      · replace h := if_t h s5
        refine lv_lookup (off := 89) (tgt := 90) hx hb dX3_lengthIsRight_1 (by decide) (by rw [s5]; decide) (by decide) ?_
        refine lv_iload_n hx hb dX3_lengthIsRight_90 rfl (lv_at hl 1 rfl) ?_
        refine lv_bipush (v := 12) hx hb dX3_lengthIsRight_91 (by decide) ?_
        refine lv_icmp_lt (tgt := 114) hx hb dX3_lengthIsRight_93 (by decide) (fun c6 => ?_) (fun c6 => ?_)
        · replace h := if_t h c6
          refine lv_iconst (v := 0) hx hb dX3_lengthIsRight_114 (by decide) ?_
          cases h
          exact ret _ _ _ _ _ (fun _ => 0) rfl rfl hP hD hS dX3_lengthIsRight_115
        · replace h := if_f h c6
          refine lv_iload_n hx hb dX3_lengthIsRight_96 rfl (lv_at hl 1 rfl) ?_
          refine lv_bipush (v := 68) hx hb dX3_lengthIsRight_97 (by decide) ?_
          refine lv_icmp_gt (tgt := 114) hx hb dX3_lengthIsRight_99 (by decide) (fun c7 => ?_) (fun c7 => ?_)
          · replace h := if_t h c7
            refine lv_iconst (v := 0) hx hb dX3_lengthIsRight_114 (by decide) ?_
            cases h
            exact ret _ _ _ _ _ (fun _ => 0) rfl rfl hP hD hS dX3_lengthIsRight_115
          · replace h := if_f h c7
            refine lv_iload_n hx hb dX3_lengthIsRight_102 rfl (lv_at hl 1 rfl) ?_
            refine lv_bipush (v := 8) hx hb dX3_lengthIsRight_103 (by decide) ?_
            refine lv_irem hx hb dX3_lengthIsRight_105 (by decide) ?_
            refine lv_topi (fun x8 ex8 => ?_)
            replace h := bn_t h ex8
            refine lv_iconst (v := 4) hx hb dX3_lengthIsRight_106 (by decide) ?_
            refine lv_icmp_ne (tgt := 114) hx hb dX3_lengthIsRight_107 (by decide) (fun c9 => ?_) (fun c9 => ?_)
            · replace h := if_f h c9
              refine lv_iconst (v := 0) hx hb dX3_lengthIsRight_114 (by decide) ?_
              cases h
              exact ret _ _ _ _ _ (fun _ => 0) rfl rfl hP hD hS dX3_lengthIsRight_115
            · replace h := if_t h c9
              refine lv_iconst (v := 1) hx hb dX3_lengthIsRight_110 (by decide) ?_
              refine lv_goto (tgt := 115) hx hb dX3_lengthIsRight_111 (by decide) ?_
              cases h
              exact ret _ _ _ _ _ (fun _ => 0) rfl rfl hP hD hS dX3_lengthIsRight_115
      · replace h := if_f h s5
        by_cases s10 : i0 = (1400138611 : Int32)
        · replace h := if_t h s10
          refine lv_lookup (off := 66) (tgt := 67) hx hb dX3_lengthIsRight_1 (by decide) (by rw [s10]; decide) (by decide) ?_
          refine lv_iload_n hx hb dX3_lengthIsRight_67 rfl (lv_at hl 1 rfl) ?_
          refine lv_if_lt (tgt := 88) hx hb dX3_lengthIsRight_68 (by decide) (fun c11 => ?_) (fun c11 => ?_)
          · replace h := if_t h c11
            refine lv_iconst (v := 0) hx hb dX3_lengthIsRight_88 (by decide) ?_
            cases h
            exact ret _ _ _ _ _ (fun _ => 0) rfl rfl hP hD hS dX3_lengthIsRight_89
          · replace h := if_f h c11
            refine lv_iload_n hx hb dX3_lengthIsRight_71 rfl (lv_at hl 1 rfl) ?_
            refine lv_sipush (v := 160) hx hb dX3_lengthIsRight_72 (by decide) ?_
            refine lv_icmp_gt (tgt := 88) hx hb dX3_lengthIsRight_75 (by decide) (fun c12 => ?_) (fun c12 => ?_)
            · replace h := if_t h c12
              refine lv_iconst (v := 0) hx hb dX3_lengthIsRight_88 (by decide) ?_
              cases h
              exact ret _ _ _ _ _ (fun _ => 0) rfl rfl hP hD hS dX3_lengthIsRight_89
            · replace h := if_f h c12
              refine lv_iload_n hx hb dX3_lengthIsRight_78 rfl (lv_at hl 1 rfl) ?_
              refine lv_iconst (v := 4) hx hb dX3_lengthIsRight_79 (by decide) ?_
              refine lv_irem hx hb dX3_lengthIsRight_80 (by decide) ?_
              refine lv_topi (fun x13 ex13 => ?_)
              replace h := bn_t h ex13
              refine lv_if_ne (tgt := 88) hx hb dX3_lengthIsRight_81 (by decide) (fun c14 => ?_) (fun c14 => ?_)
              · replace h := if_f h c14
                refine lv_iconst (v := 0) hx hb dX3_lengthIsRight_88 (by decide) ?_
                cases h
                exact ret _ _ _ _ _ (fun _ => 0) rfl rfl hP hD hS dX3_lengthIsRight_89
              · replace h := if_t h c14
                refine lv_iconst (v := 1) hx hb dX3_lengthIsRight_84 (by decide) ?_
                refine lv_goto (tgt := 89) hx hb dX3_lengthIsRight_85 (by decide) ?_
                cases h
                exact ret _ _ _ _ _ (fun _ => 0) rfl rfl hP hD hS dX3_lengthIsRight_89
        · replace h := if_f h s10
          refine lv_lookup (off := 115) (tgt := 116) hx hb dX3_lengthIsRight_1 (by decide) (by rw [lv_osw s1 (by decide)]; rw [lv_osw s3 (by decide)]; rw [lv_osw s5 (by decide)]; rw [lv_osw s10 (by decide)]; rfl) (by decide) ?_
          refine lv_iload_n hx hb dX3_lengthIsRight_116 rfl (lv_at hl 1 rfl) ?_
          refine lv_if_lt (tgt := 124) hx hb dX3_lengthIsRight_117 (by decide) (fun c15 => ?_) (fun c15 => ?_)
          · replace h := if_t h c15
            refine lv_iconst (v := 0) hx hb dX3_lengthIsRight_124 (by decide) ?_
            cases h
            exact ret _ _ _ _ _ (fun _ => 0) rfl rfl hP hD hS dX3_lengthIsRight_125
          · replace h := if_f h c15
            refine lv_iconst (v := 1) hx hb dX3_lengthIsRight_120 (by decide) ?_
            refine lv_goto (tgt := 125) hx hb dX3_lengthIsRight_121 (by decide) ?_
            cases h
            exact ret _ _ _ _ _ (fun _ => 0) rfl rfl hP hD hS dX3_lengthIsRight_125
def f_X3_wasSeen (i1 : Int32) (p0_sawHead : Int32) (p0_sawMemory : Int32) (p0_sawStack : Int32) (p0_sawBlocks : Int32) : Option (Int32) :=
  if i1 = (1129145709 : Int32) then (
  gbo p0_sawMemory <|
  some (p0_sawMemory))
  else if i1 = (1229351012 : Int32) then (
  gbo p0_sawHead <|
  some (p0_sawHead))
  else if i1 = (1296133228 : Int32) then (
  gbo p0_sawBlocks <|
  some (p0_sawBlocks))
  else if i1 = (1400138611 : Int32) then (
  gbo p0_sawStack <|
  some (p0_sawStack))
  else 
  some ((0 : Int32))
abbrev w_rm_X3_wasSeen : Room := { frames := 0, cells := 0, slots := 0, locals := 0 }
set_option maxHeartbeats 4000000 in
set_option maxRecDepth 100000 in
theorem c_X3_wasSeen (l : Launch) (G : va_G) (E : ClassId × ClassId × ClassId) (hp0 : Nat) (hp0_story : Nat) (hp0_machine : Nat) (hp0_others : Nat) (p0_fault : Int32) (p0_place : Int32) (p0_next : Int32) (p0_sawHead : Int32) (p0_sawMemory : Int32) (p0_sawStack : Int32) (p0_sawBlocks : Int32) (i1 : Int32) (r : Int32) (h : f_X3_wasSeen i1 p0_sawHead p0_sawMemory p0_sawStack p0_sawBlocks = some (r)) : MI l G E yX3_wasSeen cX3_wasSeen 2 .boolean w_rm_X3_wasSeen [.ref hp0, .int i1] [(hp0, .inr (3, [.ref hp0_story, .ref hp0_machine, .ref hp0_others, .int p0_fault, .int p0_place, .int p0_next, .int p0_sawHead, .int p0_sawMemory, .int p0_sawStack, .int p0_sawBlocks]))] r (fun a => [(hp0, .inr (3, [.ref hp0_story, .ref hp0_machine, .ref hp0_others, .int p0_fault, .int p0_place, .int p0_next, .int p0_sawHead, .int p0_sawMemory, .int p0_sawStack, .int p0_sawBlocks]))]) 0 0 := by
  refine MI_of (by decide) (Nat.le_of_ble_eq_true rfl) ?_
  intro p e s m args below meth c A Q hx hb hml hown hts hK hA hP hD hS ret ls hl
  replace hl : lv_has ls 2 [(0, .ref hp0), (1, .int i1)] := hl
  unfold f_X3_wasSeen at h
  refine lv_iload_n hx hb dX3_wasSeen_0 rfl (lv_at hl 1 rfl) ?_
  by_cases s1 : i1 = (1129145709 : Int32)
  · replace h := if_t h s1
    refine lv_lookup (off := 48) (tgt := 49) hx hb dX3_wasSeen_1 (by decide) (by rw [s1]; decide) (by decide) ?_
    refine lv_aload_n hx hb dX3_wasSeen_49 rfl (lv_at hl 0 rfl) ?_
    refine getF (D := G) (ci := 3) (v := .int p0_sawMemory) (C := RX3) (T := TX3) (N := 10) hx hb hts inG_X3 hown hK.1 hP 0 rfl rfl 7 (by decide) tf_X3_7 (hts _ wd_fb0e5dcc) rfl dX3_wasSeen_50 ?_
    obtain ⟨g2, h⟩ := gbo_t h
    cases h
    exact ret _ _ _ _ _ (fun _ => 0) rfl (bo_nar g2) hP hD hS dX3_wasSeen_53
  · replace h := if_f h s1
    by_cases s3 : i1 = (1229351012 : Int32)
    · replace h := if_t h s3
      refine lv_lookup (off := 43) (tgt := 44) hx hb dX3_wasSeen_1 (by decide) (by rw [s3]; decide) (by decide) ?_
      refine lv_aload_n hx hb dX3_wasSeen_44 rfl (lv_at hl 0 rfl) ?_
      refine getF (D := G) (ci := 3) (v := .int p0_sawHead) (C := RX3) (T := TX3) (N := 10) hx hb hts inG_X3 hown hK.1 hP 0 rfl rfl 6 (by decide) tf_X3_6 (hts _ wd_3f712f62) rfl dX3_wasSeen_45 ?_
      obtain ⟨g4, h⟩ := gbo_t h
      cases h
      exact ret _ _ _ _ _ (fun _ => 0) rfl (bo_nar g4) hP hD hS dX3_wasSeen_48
    · replace h := if_f h s3
      by_cases s5 : i1 = (1296133228 : Int32)
      · replace h := if_t h s5
        refine lv_lookup (off := 58) (tgt := 59) hx hb dX3_wasSeen_1 (by decide) (by rw [s5]; decide) (by decide) ?_
        refine lv_aload_n hx hb dX3_wasSeen_59 rfl (lv_at hl 0 rfl) ?_
        refine getF (D := G) (ci := 3) (v := .int p0_sawBlocks) (C := RX3) (T := TX3) (N := 10) hx hb hts inG_X3 hown hK.1 hP 0 rfl rfl 9 (by decide) tf_X3_9 (hts _ wd_b606cdff) rfl dX3_wasSeen_60 ?_
        obtain ⟨g6, h⟩ := gbo_t h
        cases h
        exact ret _ _ _ _ _ (fun _ => 0) rfl (bo_nar g6) hP hD hS dX3_wasSeen_63
      · replace h := if_f h s5
        by_cases s7 : i1 = (1400138611 : Int32)
        · replace h := if_t h s7
          refine lv_lookup (off := 53) (tgt := 54) hx hb dX3_wasSeen_1 (by decide) (by rw [s7]; decide) (by decide) ?_
          refine lv_aload_n hx hb dX3_wasSeen_54 rfl (lv_at hl 0 rfl) ?_
          refine getF (D := G) (ci := 3) (v := .int p0_sawStack) (C := RX3) (T := TX3) (N := 10) hx hb hts inG_X3 hown hK.1 hP 0 rfl rfl 8 (by decide) tf_X3_8 (hts _ wd_1456029b) rfl dX3_wasSeen_55 ?_
          obtain ⟨g8, h⟩ := gbo_t h
          cases h
          exact ret _ _ _ _ _ (fun _ => 0) rfl (bo_nar g8) hP hD hS dX3_wasSeen_58
        · replace h := if_f h s7
          refine lv_lookup (off := 63) (tgt := 64) hx hb dX3_wasSeen_1 (by decide) (by rw [lv_osw s1 (by decide)]; rw [lv_osw s3 (by decide)]; rw [lv_osw s5 (by decide)]; rw [lv_osw s7 (by decide)]; rfl) (by decide) ?_
          refine lv_iconst (v := 0) hx hb dX3_wasSeen_64 (by decide) ?_
          cases h
          exact ret _ _ _ _ _ (fun _ => 0) rfl rfl hP hD hS dX3_wasSeen_65
def J_X3_mayCome_63 (i2 : Int32)  : Option (Int32 × Int32 × Int32) :=
  bd (f_X3_fail (8 : Int32) i2) fun u7 =>
  gbo u7.1 <|
  some (u7.1, u7.2.1, u7.2.2)
def J_X3_mayCome_50 (i1 : Int32) (i2 : Int32) (p0_fault : Int32) (p0_place : Int32) (p0_sawMemory : Int32)  : Option (Int32 × Int32 × Int32) :=
  if i1 = (1296133228 : Int32) then (
  if p0_sawMemory = 0 then (
  J_X3_mayCome_63 i2)
  else
  some ((1 : Int32), p0_fault, p0_place))
  else
  some ((1 : Int32), p0_fault, p0_place)
def J_X3_mayCome_38 (i1 : Int32) (i2 : Int32) (p0_fault : Int32) (p0_place : Int32) (p0_sawHead : Int32) (p0_sawMemory : Int32) (y5 : Int32) : Option (Int32 × Int32 × Int32) :=
  if y5 = 0 then (
  J_X3_mayCome_50 i1 i2 p0_fault p0_place p0_sawMemory)
  else
  if p0_sawHead = 0 then (
  J_X3_mayCome_63 i2)
  else
  J_X3_mayCome_50 i1 i2 p0_fault p0_place p0_sawMemory
def J_X3_mayCome_33 (i1 : Int32) (i2 : Int32) (p0_fault : Int32) (p0_place : Int32) (p0_sawHead : Int32) (p0_sawMemory : Int32)  : Option (Int32 × Int32 × Int32) :=
  J_X3_mayCome_38 i1 i2 p0_fault p0_place p0_sawHead p0_sawMemory (1 : Int32)
def f_X3_mayCome (i1 : Int32) (i2 : Int32) (p0_fault : Int32) (p0_place : Int32) (p0_sawHead : Int32) (p0_sawMemory : Int32) (p0_sawStack : Int32) (p0_sawBlocks : Int32) : Option (Int32 × Int32 × Int32) :=
  bd (f_X3_wasSeen i1 p0_sawHead p0_sawMemory p0_sawStack p0_sawBlocks) fun u1 =>
  if u1 = 0 then (
  if i1 = (1129145709 : Int32) then (
  J_X3_mayCome_33 i1 i2 p0_fault p0_place p0_sawHead p0_sawMemory)
  else
  if i1 = (1400138611 : Int32) then (
  J_X3_mayCome_33 i1 i2 p0_fault p0_place p0_sawHead p0_sawMemory)
  else
  if i1 = (1296133228 : Int32) then (
  J_X3_mayCome_33 i1 i2 p0_fault p0_place p0_sawHead p0_sawMemory)
  else
  J_X3_mayCome_38 i1 i2 p0_fault p0_place p0_sawHead p0_sawMemory (0 : Int32))
  else
  bd (f_X3_fail (4 : Int32) i2) fun u15 =>
  gbo u15.1 <|
  some (u15.1, u15.2.1, u15.2.2)
abbrev w_rm_X3_mayCome : Room := { frames := 1, cells := 0, slots := 0, locals := 22 }
set_option maxHeartbeats 4000000 in
set_option maxRecDepth 100000 in
theorem c_X3_mayCome (l : Launch) (G : va_G) (E : ClassId × ClassId × ClassId) (hp0 : Nat) (hp0_story : Nat) (hp0_machine : Nat) (hp0_others : Nat) (p0_fault : Int32) (p0_place : Int32) (p0_next : Int32) (p0_sawHead : Int32) (p0_sawMemory : Int32) (p0_sawStack : Int32) (p0_sawBlocks : Int32) (i1 : Int32) (i2 : Int32) (r : Int32) (o0 : Int32) (o1 : Int32) (h : f_X3_mayCome i1 i2 p0_fault p0_place p0_sawHead p0_sawMemory p0_sawStack p0_sawBlocks = some (r, o0, o1)) : MI l G E yX3_mayCome cX3_mayCome 4 .boolean w_rm_X3_mayCome [.ref hp0, .int i1, .int i2] [(hp0, .inr (3, [.ref hp0_story, .ref hp0_machine, .ref hp0_others, .int p0_fault, .int p0_place, .int p0_next, .int p0_sawHead, .int p0_sawMemory, .int p0_sawStack, .int p0_sawBlocks]))] r (fun a => [(hp0, .inr (3, [.ref hp0_story, .ref hp0_machine, .ref hp0_others, .int o0, .int o1, .int p0_next, .int p0_sawHead, .int p0_sawMemory, .int p0_sawStack, .int p0_sawBlocks]))]) 0 0 := by
  refine MI_of (by decide) (Nat.le_of_ble_eq_true rfl) ?_
  intro p e s m args below meth c A Q hx hb hml hown hts hK hA hP hD hS ret ls hl
  replace hl : lv_has ls 4 [(0, .ref hp0), (1, .int i1), (2, .int i2)] := hl
  unfold f_X3_mayCome at h
  refine lv_aload_n hx hb dX3_mayCome_0 rfl (lv_at hl 0 rfl) ?_
  refine lv_iload_n hx hb dX3_mayCome_1 rfl (lv_at hl 1 rfl) ?_
  obtain ⟨u1, hu1, h⟩ := bd_t h
  refine cVi (wr := []) (As := [.int i1]) (rest := []) ⟨hx, hb, hml, hown, hts⟩ (c_X3_wasSeen l G E hp0 hp0_story hp0_machine hp0_others p0_fault p0_place p0_next p0_sawHead p0_sawMemory p0_sawStack p0_sawBlocks i1 u1 hu1) ok_X3_wasSeen okv_X3_wasSeen wd_aec7ec9d ⟨Nat.le_of_ble_eq_true rfl, Nat.le_of_ble_eq_true rfl⟩ hK hP hD hS hA [0] [] rfl rfl (by decide) (by decide) (by decide) (va_recv hK.1 hP (ci := 3) (q0 := 0) rfl rfl) rfl hl.1 rfl (Nat.le_of_ble_eq_true rfl) dX3_mayCome_2 ⟨Nat.le_of_ble_eq_true rfl, Nat.le_of_ble_eq_true rfl⟩ (fun H locs a2 hP hD hS => ?_)
  have hP : va_P G vwCl [(hp0, .inr (3, [.ref hp0_story, .ref hp0_machine, .ref hp0_others, .int p0_fault, .int p0_place, .int p0_next, .int p0_sawHead, .int p0_sawMemory, .int p0_sawStack, .int p0_sawBlocks]))] H := hP
  have hD : va_D A [(hp0, .inr (3, [.ref hp0_story, .ref hp0_machine, .ref hp0_others, .int p0_fault, .int p0_place, .int p0_next, .int p0_sawHead, .int p0_sawMemory, .int p0_sawStack, .int p0_sawBlocks]))] := hD
  refine lv_if_eq (tgt := 15) hx hb dX3_mayCome_5 (by decide) (fun c3 => ?_) (fun c3 => ?_)
  · replace h := if_t h c3
    refine lv_iload_n hx hb dX3_mayCome_15 rfl (lv_at hl 1 rfl) ?_
    refine lv_ldc hx hb hown (hts _ wd_55d3bb0d) dX3_mayCome_16 ?_
    have hJ38 : ∀ (y5 : Int32), J_X3_mayCome_38 i1 i2 p0_fault p0_place p0_sawHead p0_sawMemory y5 = some (r, o0, o1) → ∀ (H : Heap) (locs : List Loc) (ls : Array Slot), va_P G vwCl [(hp0, .inr (3, [.ref hp0_story, .ref hp0_machine, .ref hp0_others, .int p0_fault, .int p0_place, .int p0_next, .int p0_sawHead, .int p0_sawMemory, .int p0_sawStack, .int p0_sawBlocks]))] H → va_D A [(hp0, .inr (3, [.ref hp0_story, .ref hp0_machine, .ref hp0_others, .int p0_fault, .int p0_place, .int p0_next, .int p0_sawHead, .int p0_sawMemory, .int p0_sawStack, .int p0_sawBlocks]))] → va_S A s.heap H locs → lv_has ls 4 [(0, .ref hp0), (1, .int i1), (2, .int i2)] → W p l e w_rm_X3_mayCome s m args below meth c H locs 0 0 Q (F0 m 38 ls [.int y5]) := by
      intro y5 h H locs ls hP hD hS hl
      unfold J_X3_mayCome_38 at h
      refine lv_istore_n (lv' := [(3, .int y5), (0, .ref hp0), (1, .int i1), (2, .int i2)]) hx hb dX3_mayCome_38 rfl hl (by decide) rfl (fun ls hl => ?_)
      refine lv_iload_n hx hb dX3_mayCome_39 rfl (lv_at hl 0 rfl) ?_
      have hJ63 : ∀ (_ : Unit), J_X3_mayCome_63 i2 = some (r, o0, o1) → ∀ (H : Heap) (locs : List Loc) (ls : Array Slot), va_P G vwCl [(hp0, .inr (3, [.ref hp0_story, .ref hp0_machine, .ref hp0_others, .int p0_fault, .int p0_place, .int p0_next, .int p0_sawHead, .int p0_sawMemory, .int p0_sawStack, .int p0_sawBlocks]))] H → va_D A [(hp0, .inr (3, [.ref hp0_story, .ref hp0_machine, .ref hp0_others, .int p0_fault, .int p0_place, .int p0_next, .int p0_sawHead, .int p0_sawMemory, .int p0_sawStack, .int p0_sawBlocks]))] → va_S A s.heap H locs → lv_has ls 4 [(0, .ref hp0), (2, .int i2)] → W p l e w_rm_X3_mayCome s m args below meth c H locs 0 0 Q (F0 m 63 ls []) := by
        intro _ h H locs ls hP hD hS hl
        unfold J_X3_mayCome_63 at h
        refine lv_aload_n hx hb dX3_mayCome_63 rfl (lv_at hl 0 rfl) ?_
        refine lv_bipush (v := 8) hx hb dX3_mayCome_64 (by decide) ?_
        refine lv_iload_n hx hb dX3_mayCome_66 rfl (lv_at hl 1 rfl) ?_
        obtain ⟨u7, hu7, h⟩ := bd_t h
        refine cVi (wr := []) (As := [.int (8 : Int32), .int i2]) (rest := []) ⟨hx, hb, hml, hown, hts⟩ (c_X3_fail l G E hp0 hp0_story hp0_machine hp0_others p0_fault p0_place p0_next p0_sawHead p0_sawMemory p0_sawStack p0_sawBlocks (8 : Int32) i2 u7.1 u7.2.1 u7.2.2 hu7) ok_X3_fail okv_X3_fail wd_c4b21be1 ⟨Nat.le_of_ble_eq_true rfl, Nat.le_of_ble_eq_true rfl⟩ hK hP hD hS hA [0] [] rfl rfl (by decide) (by decide) (by decide) (va_recv hK.1 hP (ci := 3) (q0 := 0) rfl rfl) rfl hl.1 rfl (Nat.le_of_ble_eq_true rfl) dX3_mayCome_67 ⟨Nat.le_of_ble_eq_true rfl, Nat.le_of_ble_eq_true rfl⟩ (fun H locs a8 hP hD hS => ?_)
        have hP : va_P G vwCl [(hp0, .inr (3, [.ref hp0_story, .ref hp0_machine, .ref hp0_others, .int u7.2.1, .int u7.2.2, .int p0_next, .int p0_sawHead, .int p0_sawMemory, .int p0_sawStack, .int p0_sawBlocks]))] H := hP
        have hD : va_D A [(hp0, .inr (3, [.ref hp0_story, .ref hp0_machine, .ref hp0_others, .int u7.2.1, .int u7.2.2, .int p0_next, .int p0_sawHead, .int p0_sawMemory, .int p0_sawStack, .int p0_sawBlocks]))] := hD
        obtain ⟨g9, h⟩ := gbo_t h
        cases h
        exact ret _ _ _ _ _ (fun _ => 0) rfl (bo_nar g9) hP hD hS dX3_mayCome_70
      have hJ50 : ∀ (_ : Unit), J_X3_mayCome_50 i1 i2 p0_fault p0_place p0_sawMemory = some (r, o0, o1) → ∀ (H : Heap) (locs : List Loc) (ls : Array Slot), va_P G vwCl [(hp0, .inr (3, [.ref hp0_story, .ref hp0_machine, .ref hp0_others, .int p0_fault, .int p0_place, .int p0_next, .int p0_sawHead, .int p0_sawMemory, .int p0_sawStack, .int p0_sawBlocks]))] H → va_D A [(hp0, .inr (3, [.ref hp0_story, .ref hp0_machine, .ref hp0_others, .int p0_fault, .int p0_place, .int p0_next, .int p0_sawHead, .int p0_sawMemory, .int p0_sawStack, .int p0_sawBlocks]))] → va_S A s.heap H locs → lv_has ls 4 [(0, .ref hp0), (1, .int i1), (2, .int i2)] → W p l e w_rm_X3_mayCome s m args below meth c H locs 0 0 Q (F0 m 50 ls []) := by
        intro _ h H locs ls hP hD hS hl
        unfold J_X3_mayCome_50 at h
        refine lv_iload_n hx hb dX3_mayCome_50 rfl (lv_at hl 1 rfl) ?_
        refine lv_ldc hx hb hown (hts _ wd_75545394) dX3_mayCome_51 ?_
        refine lv_icmp_ne (tgt := 71) hx hb dX3_mayCome_53 (by decide) (fun c10 => ?_) (fun c10 => ?_)
        · replace h := if_f h c10
          refine lv_iconst (v := 1) hx hb dX3_mayCome_71 (by decide) ?_
          cases h
          exact ret _ _ _ _ _ (fun _ => 0) rfl rfl hP hD hS dX3_mayCome_72
        · replace h := if_t h c10
          refine lv_aload_n hx hb dX3_mayCome_56 rfl (lv_at hl 0 rfl) ?_
          refine getF (D := G) (ci := 3) (v := .int p0_sawMemory) (C := RX3) (T := TX3) (N := 10) hx hb hts inG_X3 hown hK.1 hP 0 rfl rfl 7 (by decide) tf_X3_7 (hts _ wd_fb0e5dcc) rfl dX3_mayCome_57 ?_
          refine lv_if_ne (tgt := 71) hx hb dX3_mayCome_60 (by decide) (fun c11 => ?_) (fun c11 => ?_)
          · replace h := if_f h c11
            refine lv_iconst (v := 1) hx hb dX3_mayCome_71 (by decide) ?_
            cases h
            exact ret _ _ _ _ _ (fun _ => 0) rfl rfl hP hD hS dX3_mayCome_72
          · replace h := if_t h c11
            exact hJ63 () h _ _ _ hP hD hS (lv_sub hl [0, 2] rfl)
      refine lv_if_eq (tgt := 50) hx hb dX3_mayCome_40 (by decide) (fun c6 => ?_) (fun c6 => ?_)
      · replace h := if_t h c6
        exact hJ50 () h _ _ _ hP hD hS (lv_sub hl [1, 2, 3] rfl)
      · replace h := if_f h c6
        refine lv_aload_n hx hb dX3_mayCome_43 rfl (lv_at hl 1 rfl) ?_
        refine getF (D := G) (ci := 3) (v := .int p0_sawHead) (C := RX3) (T := TX3) (N := 10) hx hb hts inG_X3 hown hK.1 hP 0 rfl rfl 6 (by decide) tf_X3_6 (hts _ wd_3f712f62) rfl dX3_mayCome_44 ?_
        refine lv_if_eq (tgt := 63) hx hb dX3_mayCome_47 (by decide) (fun c12 => ?_) (fun c12 => ?_)
        · replace h := if_t h c12
          exact hJ63 () h _ _ _ hP hD hS (lv_sub hl [1, 3] rfl)
        · replace h := if_f h c12
          exact hJ50 () h _ _ _ hP hD hS (lv_sub hl [1, 2, 3] rfl)
    have hJ33 : ∀ (_ : Unit), J_X3_mayCome_33 i1 i2 p0_fault p0_place p0_sawHead p0_sawMemory = some (r, o0, o1) → ∀ (H : Heap) (locs : List Loc) (ls : Array Slot), va_P G vwCl [(hp0, .inr (3, [.ref hp0_story, .ref hp0_machine, .ref hp0_others, .int p0_fault, .int p0_place, .int p0_next, .int p0_sawHead, .int p0_sawMemory, .int p0_sawStack, .int p0_sawBlocks]))] H → va_D A [(hp0, .inr (3, [.ref hp0_story, .ref hp0_machine, .ref hp0_others, .int p0_fault, .int p0_place, .int p0_next, .int p0_sawHead, .int p0_sawMemory, .int p0_sawStack, .int p0_sawBlocks]))] → va_S A s.heap H locs → lv_has ls 4 [(0, .ref hp0), (1, .int i1), (2, .int i2)] → W p l e w_rm_X3_mayCome s m args below meth c H locs 0 0 Q (F0 m 33 ls []) := by
      intro _ h H locs ls hP hD hS hl
      unfold J_X3_mayCome_33 at h
      refine lv_iconst (v := 1) hx hb dX3_mayCome_33 (by decide) ?_
      refine lv_goto (tgt := 38) hx hb dX3_mayCome_34 (by decide) ?_
      exact hJ38 (1 : Int32) h _ _ _ hP hD hS hl
    refine lv_icmp_eq (tgt := 33) hx hb dX3_mayCome_18 (by decide) (fun c4 => ?_) (fun c4 => ?_)
    · replace h := if_t h c4
      exact hJ33 () h _ _ _ hP hD hS hl
    · replace h := if_f h c4
      refine lv_iload_n hx hb dX3_mayCome_21 rfl (lv_at hl 1 rfl) ?_
      refine lv_ldc hx hb hown (hts _ wd_f0ab0517) dX3_mayCome_22 ?_
      refine lv_icmp_eq (tgt := 33) hx hb dX3_mayCome_24 (by decide) (fun c13 => ?_) (fun c13 => ?_)
      · replace h := if_t h c13
        exact hJ33 () h _ _ _ hP hD hS hl
      · replace h := if_f h c13
        refine lv_iload_n hx hb dX3_mayCome_27 rfl (lv_at hl 1 rfl) ?_
        refine lv_ldc hx hb hown (hts _ wd_75545394) dX3_mayCome_28 ?_
        refine lv_icmp_ne (tgt := 37) hx hb dX3_mayCome_30 (by decide) (fun c14 => ?_) (fun c14 => ?_)
        · replace h := if_f h c14
          refine lv_iconst (v := 0) hx hb dX3_mayCome_37 (by decide) ?_
          exact hJ38 (0 : Int32) h _ _ _ hP hD hS hl
        · replace h := if_t h c14
          exact hJ33 () h _ _ _ hP hD hS hl
  · replace h := if_f h c3
    refine lv_aload_n hx hb dX3_mayCome_8 rfl (lv_at hl 0 rfl) ?_
    refine lv_iconst (v := 4) hx hb dX3_mayCome_9 (by decide) ?_
    refine lv_iload_n hx hb dX3_mayCome_10 rfl (lv_at hl 2 rfl) ?_
    obtain ⟨u15, hu15, h⟩ := bd_t h
    refine cVi (wr := []) (As := [.int (4 : Int32), .int i2]) (rest := []) ⟨hx, hb, hml, hown, hts⟩ (c_X3_fail l G E hp0 hp0_story hp0_machine hp0_others p0_fault p0_place p0_next p0_sawHead p0_sawMemory p0_sawStack p0_sawBlocks (4 : Int32) i2 u15.1 u15.2.1 u15.2.2 hu15) ok_X3_fail okv_X3_fail wd_c4b21be1 ⟨Nat.le_of_ble_eq_true rfl, Nat.le_of_ble_eq_true rfl⟩ hK hP hD hS hA [0] [] rfl rfl (by decide) (by decide) (by decide) (va_recv hK.1 hP (ci := 3) (q0 := 0) rfl rfl) rfl hl.1 rfl (Nat.le_of_ble_eq_true rfl) dX3_mayCome_11 ⟨Nat.le_of_ble_eq_true rfl, Nat.le_of_ble_eq_true rfl⟩ (fun H locs a16 hP hD hS => ?_)
    have hP : va_P G vwCl [(hp0, .inr (3, [.ref hp0_story, .ref hp0_machine, .ref hp0_others, .int u15.2.1, .int u15.2.2, .int p0_next, .int p0_sawHead, .int p0_sawMemory, .int p0_sawStack, .int p0_sawBlocks]))] H := hP
    have hD : va_D A [(hp0, .inr (3, [.ref hp0_story, .ref hp0_machine, .ref hp0_others, .int u15.2.1, .int u15.2.2, .int p0_next, .int p0_sawHead, .int p0_sawMemory, .int p0_sawStack, .int p0_sawBlocks]))] := hD
    obtain ⟨g17, h⟩ := gbo_t h
    cases h
    exact ret _ _ _ _ _ (fun _ => 0) rfl (bo_nar g17) hP hD hS dX3_mayCome_14
def J_X3_lengthMayBe_41 (i3 : Int32)  : Option (Int32 × Int32 × Int32) :=
  bd (f_X3_fail (9 : Int32) i3) fun u8 =>
  gbo u8.1 <|
  some (u8.1, u8.2.1, u8.2.2)
def f_X3_lengthMayBe (i1 : Int32) (i2 : Int32) (i3 : Int32) (p0_fault : Int32) (p0_place : Int32) (p0_others_count : Int32) : Option (Int32 × Int32 × Int32) :=
  bd (f_X3_lengthIsRight i1 i2) fun u1 =>
  if u1 = 0 then (
  bd (f_X3_fail (5 : Int32) (i3 + (4 : Int32))) fun u12 =>
  gbo u12.1 <|
  some (u12.1, u12.2.1, u12.2.2))
  else
  bd (f_X3_isKnown i1) fun u4 =>
  if u4 = 0 then (
  if (4 : Int32) ≤ p0_others_count then (
  J_X3_lengthMayBe_41 i3)
  else
  if i2 ≤ (60 : Int32) then (
  some ((1 : Int32), p0_fault, p0_place))
  else
  J_X3_lengthMayBe_41 i3)
  else
  some ((1 : Int32), p0_fault, p0_place)
abbrev w_rm_X3_lengthMayBe : Room := { frames := 1, cells := 0, slots := 0, locals := 22 }
set_option maxHeartbeats 4000000 in
set_option maxRecDepth 100000 in
theorem c_X3_lengthMayBe (l : Launch) (G : va_G) (E : ClassId × ClassId × ClassId) (hp0 : Nat) (hp0_story : Nat) (hp0_machine : Nat) (hp0_others : Nat) (p0_fault : Int32) (p0_place : Int32) (p0_next : Int32) (p0_sawHead : Int32) (p0_sawMemory : Int32) (p0_sawStack : Int32) (p0_sawBlocks : Int32) (p0_others_count : Int32) (hp0_others_letters : Nat) (hp0_others_lengths : Nat) (hp0_others_bytes : Nat) (i1 : Int32) (i2 : Int32) (i3 : Int32) (r : Int32) (o0 : Int32) (o1 : Int32) (h : f_X3_lengthMayBe i1 i2 i3 p0_fault p0_place p0_others_count = some (r, o0, o1)) : MI l G E yX3_lengthMayBe cX3_lengthMayBe 4 .boolean w_rm_X3_lengthMayBe [.ref hp0, .int i1, .int i2, .int i3] [(hp0, .inr (3, [.ref hp0_story, .ref hp0_machine, .ref hp0_others, .int p0_fault, .int p0_place, .int p0_next, .int p0_sawHead, .int p0_sawMemory, .int p0_sawStack, .int p0_sawBlocks])), (hp0_others, .inr (2, [.int p0_others_count, .ref hp0_others_letters, .ref hp0_others_lengths, .ref hp0_others_bytes]))] r (fun a => [(hp0, .inr (3, [.ref hp0_story, .ref hp0_machine, .ref hp0_others, .int o0, .int o1, .int p0_next, .int p0_sawHead, .int p0_sawMemory, .int p0_sawStack, .int p0_sawBlocks])), (hp0_others, .inr (2, [.int p0_others_count, .ref hp0_others_letters, .ref hp0_others_lengths, .ref hp0_others_bytes]))]) 0 0 := by
  refine MI_of (by decide) (Nat.le_of_ble_eq_true rfl) ?_
  intro p e s m args below meth c A Q hx hb hml hown hts hK hA hP hD hS ret ls hl
  replace hl : lv_has ls 4 [(0, .ref hp0), (1, .int i1), (2, .int i2), (3, .int i3)] := hl
  unfold f_X3_lengthMayBe at h
  refine lv_iload_n hx hb dX3_lengthMayBe_0 rfl (lv_at hl 1 rfl) ?_
  refine lv_iload_n hx hb dX3_lengthMayBe_1 rfl (lv_at hl 2 rfl) ?_
  obtain ⟨u1, hu1, h⟩ := bd_t h
  refine cSi (wr := [(hp0, .inr (3, [.ref hp0_story, .ref hp0_machine, .ref hp0_others, .int p0_fault, .int p0_place, .int p0_next, .int p0_sawHead, .int p0_sawMemory, .int p0_sawStack, .int p0_sawBlocks])), (hp0_others, .inr (2, [.int p0_others_count, .ref hp0_others_letters, .ref hp0_others_lengths, .ref hp0_others_bytes]))]) (As := [.int i1, .int i2]) (rest := []) ⟨hx, hb, hml, hown, hts⟩ (c_X3_lengthIsRight l G E i1 i2 u1 hu1) ok_X3_lengthIsRight oks_X3_lengthIsRight wd_d433730b ⟨Nat.le_of_ble_eq_true rfl, Nat.le_of_ble_eq_true rfl⟩ hK hP hD hS hA [] [0, 1] rfl rfl (by decide) (by decide) (by decide) rfl hl.1 rfl (Nat.le_of_ble_eq_true rfl) dX3_lengthMayBe_2 ⟨Nat.le_of_ble_eq_true rfl, Nat.le_of_ble_eq_true rfl⟩ (fun H locs a2 hP hD hS => ?_)
  have hP : va_P G vwCl [(hp0, .inr (3, [.ref hp0_story, .ref hp0_machine, .ref hp0_others, .int p0_fault, .int p0_place, .int p0_next, .int p0_sawHead, .int p0_sawMemory, .int p0_sawStack, .int p0_sawBlocks])), (hp0_others, .inr (2, [.int p0_others_count, .ref hp0_others_letters, .ref hp0_others_lengths, .ref hp0_others_bytes]))] H := hP
  have hD : va_D A [(hp0, .inr (3, [.ref hp0_story, .ref hp0_machine, .ref hp0_others, .int p0_fault, .int p0_place, .int p0_next, .int p0_sawHead, .int p0_sawMemory, .int p0_sawStack, .int p0_sawBlocks])), (hp0_others, .inr (2, [.int p0_others_count, .ref hp0_others_letters, .ref hp0_others_lengths, .ref hp0_others_bytes]))] := hD
  refine lv_if_ne (tgt := 17) hx hb dX3_lengthMayBe_5 (by decide) (fun c3 => ?_) (fun c3 => ?_)
  · replace h := if_f h c3
    refine lv_iload_n hx hb dX3_lengthMayBe_17 rfl (lv_at hl 1 rfl) ?_
    obtain ⟨u4, hu4, h⟩ := bd_t h
    refine cSi (wr := [(hp0, .inr (3, [.ref hp0_story, .ref hp0_machine, .ref hp0_others, .int p0_fault, .int p0_place, .int p0_next, .int p0_sawHead, .int p0_sawMemory, .int p0_sawStack, .int p0_sawBlocks])), (hp0_others, .inr (2, [.int p0_others_count, .ref hp0_others_letters, .ref hp0_others_lengths, .ref hp0_others_bytes]))]) (As := [.int i1]) (rest := []) ⟨hx, hb, hml, hown, hts⟩ (c_X3_isKnown l G E i1 u4 hu4) ok_X3_isKnown oks_X3_isKnown wd_ec09e56c ⟨Nat.le_of_ble_eq_true rfl, Nat.le_of_ble_eq_true rfl⟩ hK hP hD hS hA [] [0, 1] rfl rfl (by decide) (by decide) (by decide) rfl hl.1 rfl (Nat.le_of_ble_eq_true rfl) dX3_lengthMayBe_18 ⟨Nat.le_of_ble_eq_true rfl, Nat.le_of_ble_eq_true rfl⟩ (fun H locs a5 hP hD hS => ?_)
    have hP : va_P G vwCl [(hp0, .inr (3, [.ref hp0_story, .ref hp0_machine, .ref hp0_others, .int p0_fault, .int p0_place, .int p0_next, .int p0_sawHead, .int p0_sawMemory, .int p0_sawStack, .int p0_sawBlocks])), (hp0_others, .inr (2, [.int p0_others_count, .ref hp0_others_letters, .ref hp0_others_lengths, .ref hp0_others_bytes]))] H := hP
    have hD : va_D A [(hp0, .inr (3, [.ref hp0_story, .ref hp0_machine, .ref hp0_others, .int p0_fault, .int p0_place, .int p0_next, .int p0_sawHead, .int p0_sawMemory, .int p0_sawStack, .int p0_sawBlocks])), (hp0_others, .inr (2, [.int p0_others_count, .ref hp0_others_letters, .ref hp0_others_lengths, .ref hp0_others_bytes]))] := hD
    refine lv_if_ne (tgt := 49) hx hb dX3_lengthMayBe_21 (by decide) (fun c6 => ?_) (fun c6 => ?_)
    · replace h := if_f h c6
      refine lv_iconst (v := 1) hx hb dX3_lengthMayBe_49 (by decide) ?_
      cases h
      exact ret _ _ _ _ _ (fun _ => 0) rfl rfl hP hD hS dX3_lengthMayBe_50
    · replace h := if_t h c6
      refine lv_aload_n hx hb dX3_lengthMayBe_24 rfl (lv_at hl 0 rfl) ?_
      refine getF (D := G) (ci := 3) (v := .ref hp0_others) (C := RX3) (T := TX3) (N := 10) hx hb hts inG_X3 hown hK.1 hP 0 rfl rfl 2 (by decide) tf_X3_2 (hts _ wd_f439a22a) rfl dX3_lengthMayBe_25 ?_
      refine getF (D := G) (ci := 2) (v := .int p0_others_count) (C := RX2) (T := TX2) (N := 4) hx hb hts inG_X2 hown hK.1 hP 1 rfl rfl 0 (by decide) tf_X2_0 (hts _ wd_d4608ca1) rfl dX3_lengthMayBe_28 ?_
      refine lv_iconst (v := 4) hx hb dX3_lengthMayBe_31 (by decide) ?_
      have hJ41 : ∀ (_ : Unit), J_X3_lengthMayBe_41 i3 = some (r, o0, o1) → ∀ (H : Heap) (locs : List Loc) (ls : Array Slot), va_P G vwCl [(hp0, .inr (3, [.ref hp0_story, .ref hp0_machine, .ref hp0_others, .int p0_fault, .int p0_place, .int p0_next, .int p0_sawHead, .int p0_sawMemory, .int p0_sawStack, .int p0_sawBlocks])), (hp0_others, .inr (2, [.int p0_others_count, .ref hp0_others_letters, .ref hp0_others_lengths, .ref hp0_others_bytes]))] H → va_D A [(hp0, .inr (3, [.ref hp0_story, .ref hp0_machine, .ref hp0_others, .int p0_fault, .int p0_place, .int p0_next, .int p0_sawHead, .int p0_sawMemory, .int p0_sawStack, .int p0_sawBlocks])), (hp0_others, .inr (2, [.int p0_others_count, .ref hp0_others_letters, .ref hp0_others_lengths, .ref hp0_others_bytes]))] → va_S A s.heap H locs → lv_has ls 4 [(0, .ref hp0), (3, .int i3)] → W p l e w_rm_X3_lengthMayBe s m args below meth c H locs 0 0 Q (F0 m 41 ls []) := by
        intro _ h H locs ls hP hD hS hl
        unfold J_X3_lengthMayBe_41 at h
        refine lv_aload_n hx hb dX3_lengthMayBe_41 rfl (lv_at hl 0 rfl) ?_
        refine lv_bipush (v := 9) hx hb dX3_lengthMayBe_42 (by decide) ?_
        refine lv_iload_n hx hb dX3_lengthMayBe_44 rfl (lv_at hl 1 rfl) ?_
        obtain ⟨u8, hu8, h⟩ := bd_t h
        refine cVi (wr := [(hp0_others, .inr (2, [.int p0_others_count, .ref hp0_others_letters, .ref hp0_others_lengths, .ref hp0_others_bytes]))]) (As := [.int (9 : Int32), .int i3]) (rest := []) ⟨hx, hb, hml, hown, hts⟩ (c_X3_fail l G E hp0 hp0_story hp0_machine hp0_others p0_fault p0_place p0_next p0_sawHead p0_sawMemory p0_sawStack p0_sawBlocks (9 : Int32) i3 u8.1 u8.2.1 u8.2.2 hu8) ok_X3_fail okv_X3_fail wd_c4b21be1 ⟨Nat.le_of_ble_eq_true rfl, Nat.le_of_ble_eq_true rfl⟩ hK hP hD hS hA [0] [1] rfl rfl (by decide) (by decide) (by decide) (va_recv hK.1 hP (ci := 3) (q0 := 0) rfl rfl) rfl hl.1 rfl (Nat.le_of_ble_eq_true rfl) dX3_lengthMayBe_45 ⟨Nat.le_of_ble_eq_true rfl, Nat.le_of_ble_eq_true rfl⟩ (fun H locs a9 hP hD hS => ?_)
        have hP : va_P G vwCl [(hp0_others, .inr (2, [.int p0_others_count, .ref hp0_others_letters, .ref hp0_others_lengths, .ref hp0_others_bytes])), (hp0, .inr (3, [.ref hp0_story, .ref hp0_machine, .ref hp0_others, .int u8.2.1, .int u8.2.2, .int p0_next, .int p0_sawHead, .int p0_sawMemory, .int p0_sawStack, .int p0_sawBlocks]))] H := hP
        have hD : va_D A [(hp0_others, .inr (2, [.int p0_others_count, .ref hp0_others_letters, .ref hp0_others_lengths, .ref hp0_others_bytes])), (hp0, .inr (3, [.ref hp0_story, .ref hp0_machine, .ref hp0_others, .int u8.2.1, .int u8.2.2, .int p0_next, .int p0_sawHead, .int p0_sawMemory, .int p0_sawStack, .int p0_sawBlocks]))] := hD
        obtain ⟨g10, h⟩ := gbo_t h
        cases h
        exact ret _ _ _ _ _ (fun _ => 0) rfl (bo_nar g10) (hP.sub [1, 0] rfl) (hD.sub [1, 0] (by decide) rfl) hS dX3_lengthMayBe_48
      refine lv_icmp_ge (tgt := 41) hx hb dX3_lengthMayBe_32 (by decide) (fun c7 => ?_) (fun c7 => ?_)
      · replace h := if_t h c7
        exact hJ41 () h _ _ _ hP hD hS (lv_sub hl [0, 3] rfl)
      · replace h := if_f h c7
        refine lv_iload_n hx hb dX3_lengthMayBe_35 rfl (lv_at hl 2 rfl) ?_
        refine lv_bipush (v := 60) hx hb dX3_lengthMayBe_36 (by decide) ?_
        refine lv_icmp_le (tgt := 49) hx hb dX3_lengthMayBe_38 (by decide) (fun c11 => ?_) (fun c11 => ?_)
        · replace h := if_t h c11
          refine lv_iconst (v := 1) hx hb dX3_lengthMayBe_49 (by decide) ?_
          cases h
          exact ret _ _ _ _ _ (fun _ => 0) rfl rfl hP hD hS dX3_lengthMayBe_50
        · replace h := if_f h c11
          exact hJ41 () h _ _ _ hP hD hS (lv_sub hl [0, 3] rfl)
  · replace h := if_t h c3
    refine lv_aload_n hx hb dX3_lengthMayBe_8 rfl (lv_at hl 0 rfl) ?_
    refine lv_iconst (v := 5) hx hb dX3_lengthMayBe_9 (by decide) ?_
    refine lv_iload_n hx hb dX3_lengthMayBe_10 rfl (lv_at hl 3 rfl) ?_
    refine lv_iconst (v := 4) hx hb dX3_lengthMayBe_11 (by decide) ?_
    refine lv_iadd hx hb dX3_lengthMayBe_12 ?_
    obtain ⟨u12, hu12, h⟩ := bd_t h
    refine cVi (wr := [(hp0_others, .inr (2, [.int p0_others_count, .ref hp0_others_letters, .ref hp0_others_lengths, .ref hp0_others_bytes]))]) (As := [.int (5 : Int32), .int (i3 + (4 : Int32))]) (rest := []) ⟨hx, hb, hml, hown, hts⟩ (c_X3_fail l G E hp0 hp0_story hp0_machine hp0_others p0_fault p0_place p0_next p0_sawHead p0_sawMemory p0_sawStack p0_sawBlocks (5 : Int32) (i3 + (4 : Int32)) u12.1 u12.2.1 u12.2.2 hu12) ok_X3_fail okv_X3_fail wd_c4b21be1 ⟨Nat.le_of_ble_eq_true rfl, Nat.le_of_ble_eq_true rfl⟩ hK hP hD hS hA [0] [1] rfl rfl (by decide) (by decide) (by decide) (va_recv hK.1 hP (ci := 3) (q0 := 0) rfl rfl) rfl hl.1 rfl (Nat.le_of_ble_eq_true rfl) dX3_lengthMayBe_13 ⟨Nat.le_of_ble_eq_true rfl, Nat.le_of_ble_eq_true rfl⟩ (fun H locs a13 hP hD hS => ?_)
    have hP : va_P G vwCl [(hp0_others, .inr (2, [.int p0_others_count, .ref hp0_others_letters, .ref hp0_others_lengths, .ref hp0_others_bytes])), (hp0, .inr (3, [.ref hp0_story, .ref hp0_machine, .ref hp0_others, .int u12.2.1, .int u12.2.2, .int p0_next, .int p0_sawHead, .int p0_sawMemory, .int p0_sawStack, .int p0_sawBlocks]))] H := hP
    have hD : va_D A [(hp0_others, .inr (2, [.int p0_others_count, .ref hp0_others_letters, .ref hp0_others_lengths, .ref hp0_others_bytes])), (hp0, .inr (3, [.ref hp0_story, .ref hp0_machine, .ref hp0_others, .int u12.2.1, .int u12.2.2, .int p0_next, .int p0_sawHead, .int p0_sawMemory, .int p0_sawStack, .int p0_sawBlocks]))] := hD
    obtain ⟨g14, h⟩ := gbo_t h
    cases h
    exact ret _ _ _ _ _ (fun _ => 0) rfl (bo_nar g14) (hP.sub [1, 0] rfl) (hD.sub [1, 0] (by decide) rfl) hS dX3_lengthMayBe_16
def J_X3_isWhole_37 (i3 : Int32) (p1_size : Int32) (p0_fault : Int32) (p0_place : Int32) (p1_bytes : (Nat → Int32)) (x1 : Int32) (y3 : Int32) (y5 : Int64) : Option (Int32 × Int32 × Int32) :=
  bd (f_X3_reaches x1 y5 p1_size p0_fault p0_place) fun u6 =>
  if u6.1 = 0 then (
  some ((0 : Int32), u6.2.1, u6.2.2))
  else
  if y3 = 0 then (
  some ((1 : Int32), u6.2.1, u6.2.2))
  else
  bd (f_X0_byteAt (x1 + i3) p1_bytes) fun u10 =>
  if u10 = 0 then (
  some ((1 : Int32), u6.2.1, u6.2.2))
  else
  bd (f_X3_fail (2 : Int32) (x1 + i3)) fun u13 =>
  if u13.1 = 0 then (
  some ((0 : Int32), u13.2.1, u13.2.2))
  else
  some ((1 : Int32), u13.2.1, u13.2.2)
def J_X3_isWhole_17 (i3 : Int32) (p1_size : Int32) (p0_fault : Int32) (p0_place : Int32) (p1_bytes : (Nat → Int32)) (x1 : Int32) (y3 : Int32) : Option (Int32 × Int32 × Int32) :=
  if y3 = 0 then (
  J_X3_isWhole_37 i3 p1_size p0_fault p0_place p1_bytes x1 y3 i3.toInt64)
  else
  J_X3_isWhole_37 i3 p1_size p0_fault p0_place p1_bytes x1 y3 (i3.toInt64 + (1 : Int64))
def f_X3_isWhole (i2 : Int32) (i3 : Int32) (p1_size : Int32) (p0_fault : Int32) (p0_place : Int32) (p1_bytes : (Nat → Int32)) : Option (Int32 × Int32 × Int32) :=
  bn (i2 + (8 : Int32)) fun x1 =>
  if (i3 &&& (1 : Int32)) = 0 then (
  J_X3_isWhole_17 i3 p1_size p0_fault p0_place p1_bytes x1 (0 : Int32))
  else
  J_X3_isWhole_17 i3 p1_size p0_fault p0_place p1_bytes x1 (1 : Int32)
abbrev w_rm_X3_isWhole : Room := { frames := 2, cells := 0, slots := 0, locals := 47 }
set_option maxHeartbeats 4000000 in
set_option maxRecDepth 100000 in
theorem c_X3_isWhole (l : Launch) (G : va_G) (E : ClassId × ClassId × ClassId) (hp1 : Nat) (hp1_bytes : Nat) (p1_size : Int32) (p1_overflowed : Int32) (hp0 : Nat) (hp0_story : Nat) (hp0_machine : Nat) (hp0_others : Nat) (p0_fault : Int32) (p0_place : Int32) (p0_next : Int32) (p0_sawHead : Int32) (p0_sawMemory : Int32) (p0_sawStack : Int32) (p0_sawBlocks : Int32) (p1_bytes : (Nat → Int32)) (i2 : Int32) (i3 : Int32) (r : Int32) (o0 : Int32) (o1 : Int32) (h : f_X3_isWhole i2 i3 p1_size p0_fault p0_place p1_bytes = some (r, o0, o1)) : MI l G E yX3_isWhole cX3_isWhole 6 .boolean w_rm_X3_isWhole [.ref hp0, .ref hp1, .int i2, .int i3] [(hp1, .inr (0, [.ref hp1_bytes, .int p1_size, .int p1_overflowed])), (hp0, .inr (3, [.ref hp0_story, .ref hp0_machine, .ref hp0_others, .int p0_fault, .int p0_place, .int p0_next, .int p0_sawHead, .int p0_sawMemory, .int p0_sawStack, .int p0_sawBlocks])), (hp1_bytes, .inl (E.1, 1200, .inl p1_bytes))] r (fun a => [(hp1, .inr (0, [.ref hp1_bytes, .int p1_size, .int p1_overflowed])), (hp0, .inr (3, [.ref hp0_story, .ref hp0_machine, .ref hp0_others, .int o0, .int o1, .int p0_next, .int p0_sawHead, .int p0_sawMemory, .int p0_sawStack, .int p0_sawBlocks])), (hp1_bytes, .inl (E.1, 1200, .inl p1_bytes))]) 0 0 := by
  refine MI_of (by decide) (Nat.le_of_ble_eq_true rfl) ?_
  intro p e s m args below meth c A Q hx hb hml hown hts hK hA hP hD hS ret ls hl
  replace hl : lv_has ls 6 [(0, .ref hp0), (1, .ref hp1), (2, .int i2), (3, .int i3)] := hl
  unfold f_X3_isWhole at h
  refine lv_iload_n hx hb dX3_isWhole_0 rfl (lv_at hl 2 rfl) ?_
  refine lv_bipush (v := 8) hx hb dX3_isWhole_1 (by decide) ?_
  refine lv_iadd hx hb dX3_isWhole_3 ?_
  refine lv_topi (fun x1 ex1 => ?_)
  replace h := bn_t h ex1
  refine lv_istore (lv' := [(4, .int x1), (0, .ref hp0), (1, .ref hp1), (2, .int i2), (3, .int i3)]) hx hb dX3_isWhole_4 hl (by decide) rfl (fun ls hl => ?_)
  refine lv_iload_n hx hb dX3_isWhole_6 rfl (lv_at hl 4 rfl) ?_
  refine lv_iconst (v := 1) hx hb dX3_isWhole_7 (by decide) ?_
  refine lv_iand hx hb dX3_isWhole_8 ?_
  have hJ17 : ∀ (y3 : Int32), J_X3_isWhole_17 i3 p1_size p0_fault p0_place p1_bytes x1 y3 = some (r, o0, o1) → ∀ (H : Heap) (locs : List Loc) (ls : Array Slot), va_P G vwCl [(hp1, .inr (0, [.ref hp1_bytes, .int p1_size, .int p1_overflowed])), (hp0, .inr (3, [.ref hp0_story, .ref hp0_machine, .ref hp0_others, .int p0_fault, .int p0_place, .int p0_next, .int p0_sawHead, .int p0_sawMemory, .int p0_sawStack, .int p0_sawBlocks])), (hp1_bytes, .inl (E.1, 1200, .inl p1_bytes))] H → va_D A [(hp1, .inr (0, [.ref hp1_bytes, .int p1_size, .int p1_overflowed])), (hp0, .inr (3, [.ref hp0_story, .ref hp0_machine, .ref hp0_others, .int p0_fault, .int p0_place, .int p0_next, .int p0_sawHead, .int p0_sawMemory, .int p0_sawStack, .int p0_sawBlocks])), (hp1_bytes, .inl (E.1, 1200, .inl p1_bytes))] → va_S A s.heap H locs → lv_has ls 6 [(0, .ref hp0), (1, .ref hp1), (3, .int i3), (4, .int x1)] → W p l e w_rm_X3_isWhole s m args below meth c H locs 0 0 Q (F0 m 17 ls [.int y3]) := by
    intro y3 h H locs ls hP hD hS hl
    unfold J_X3_isWhole_17 at h
    refine lv_istore (lv' := [(5, .int y3), (0, .ref hp0), (1, .ref hp1), (3, .int i3), (4, .int x1)]) hx hb dX3_isWhole_17 hl (by decide) rfl (fun ls hl => ?_)
    refine lv_aload_n hx hb dX3_isWhole_19 rfl (lv_at hl 1 rfl) ?_
    refine lv_aload_n hx hb dX3_isWhole_20 rfl (lv_at hl 2 rfl) ?_
    refine lv_iload hx hb dX3_isWhole_21 (lv_at hl 4 rfl) ?_
    refine lv_iload hx hb dX3_isWhole_23 (lv_at hl 0 rfl) ?_
    have hJ37 : ∀ (y5 : Int64), J_X3_isWhole_37 i3 p1_size p0_fault p0_place p1_bytes x1 y3 y5 = some (r, o0, o1) → ∀ (H : Heap) (locs : List Loc) (ls : Array Slot), va_P G vwCl [(hp1, .inr (0, [.ref hp1_bytes, .int p1_size, .int p1_overflowed])), (hp0, .inr (3, [.ref hp0_story, .ref hp0_machine, .ref hp0_others, .int p0_fault, .int p0_place, .int p0_next, .int p0_sawHead, .int p0_sawMemory, .int p0_sawStack, .int p0_sawBlocks])), (hp1_bytes, .inl (E.1, 1200, .inl p1_bytes))] H → va_D A [(hp1, .inr (0, [.ref hp1_bytes, .int p1_size, .int p1_overflowed])), (hp0, .inr (3, [.ref hp0_story, .ref hp0_machine, .ref hp0_others, .int p0_fault, .int p0_place, .int p0_next, .int p0_sawHead, .int p0_sawMemory, .int p0_sawStack, .int p0_sawBlocks])), (hp1_bytes, .inl (E.1, 1200, .inl p1_bytes))] → va_S A s.heap H locs → lv_has ls 6 [(0, .ref hp0), (1, .ref hp1), (3, .int i3), (4, .int x1), (5, .int y3)] → W p l e w_rm_X3_isWhole s m args below meth c H locs 0 0 Q (F0 m 37 ls [.long y5, .int x1, .ref hp1, .ref hp0]) := by
      intro y5 h H locs ls hP hD hS hl
      unfold J_X3_isWhole_37 at h
      obtain ⟨u6, hu6, h⟩ := bd_t h
      refine cVi (wr := [(hp1_bytes, .inl (E.1, 1200, .inl p1_bytes))]) (As := [.ref hp1, .int x1, .long y5]) (rest := []) ⟨hx, hb, hml, hown, hts⟩ (c_X3_reaches l G E hp1 hp1_bytes p1_size p1_overflowed hp0 hp0_story hp0_machine hp0_others p0_fault p0_place p0_next p0_sawHead p0_sawMemory p0_sawStack p0_sawBlocks x1 y5 u6.1 u6.2.1 u6.2.2 hu6) ok_X3_reaches okv_X3_reaches wd_4a1b47ad ⟨Nat.le_of_ble_eq_true rfl, Nat.le_of_ble_eq_true rfl⟩ hK hP hD hS hA [0, 1] [2] rfl rfl (by decide) (by decide) (by decide) (va_recv hK.1 hP (ci := 3) (q0 := 1) rfl rfl) rfl hl.1 rfl (Nat.le_of_ble_eq_true rfl) dX3_isWhole_37 ⟨Nat.le_of_ble_eq_true rfl, Nat.le_of_ble_eq_true rfl⟩ (fun H locs a7 hP hD hS => ?_)
      have hP : va_P G vwCl [(hp1_bytes, .inl (E.1, 1200, .inl p1_bytes)), (hp1, .inr (0, [.ref hp1_bytes, .int p1_size, .int p1_overflowed])), (hp0, .inr (3, [.ref hp0_story, .ref hp0_machine, .ref hp0_others, .int u6.2.1, .int u6.2.2, .int p0_next, .int p0_sawHead, .int p0_sawMemory, .int p0_sawStack, .int p0_sawBlocks]))] H := hP
      have hD : va_D A [(hp1_bytes, .inl (E.1, 1200, .inl p1_bytes)), (hp1, .inr (0, [.ref hp1_bytes, .int p1_size, .int p1_overflowed])), (hp0, .inr (3, [.ref hp0_story, .ref hp0_machine, .ref hp0_others, .int u6.2.1, .int u6.2.2, .int p0_next, .int p0_sawHead, .int p0_sawMemory, .int p0_sawStack, .int p0_sawBlocks]))] := hD
      refine lv_if_ne (tgt := 45) hx hb dX3_isWhole_40 (by decide) (fun c8 => ?_) (fun c8 => ?_)
      · replace h := if_f h c8
        refine lv_iload hx hb dX3_isWhole_45 (lv_at hl 4 rfl) ?_
        refine lv_if_eq (tgt := 73) hx hb dX3_isWhole_47 (by decide) (fun c9 => ?_) (fun c9 => ?_)
        · replace h := if_t h c9
          refine lv_iconst (v := 1) hx hb dX3_isWhole_73 (by decide) ?_
          refine lv_goto (tgt := 78) hx hb dX3_isWhole_74 (by decide) ?_
          cases h
          exact ret _ _ _ _ _ (fun _ => 0) rfl rfl (hP.sub [1, 2, 0] rfl) (hD.sub [1, 2, 0] (by decide) rfl) hS dX3_isWhole_78
        · replace h := if_f h c9
          refine lv_aload_n hx hb dX3_isWhole_50 rfl (lv_at hl 1 rfl) ?_
          refine lv_iload hx hb dX3_isWhole_51 (lv_at hl 3 rfl) ?_
          refine lv_iload_n hx hb dX3_isWhole_53 rfl (lv_at hl 2 rfl) ?_
          refine lv_iadd hx hb dX3_isWhole_54 ?_
          obtain ⟨u10, hu10, h⟩ := bd_t h
          refine cVi (wr := [(hp0, .inr (3, [.ref hp0_story, .ref hp0_machine, .ref hp0_others, .int u6.2.1, .int u6.2.2, .int p0_next, .int p0_sawHead, .int p0_sawMemory, .int p0_sawStack, .int p0_sawBlocks]))]) (As := [.int (x1 + i3)]) (rest := []) ⟨hx, hb, hml, hown, hts⟩ (c_X0_byteAt l G E hp1 hp1_bytes p1_size p1_overflowed p1_bytes (x1 + i3) u10 hu10) ok_X0_byteAt okv_X0_byteAt wd_bca33b46 ⟨Nat.le_of_ble_eq_true rfl, Nat.le_of_ble_eq_true rfl⟩ hK hP hD hS hA [1, 0] [2] rfl rfl (by decide) (by decide) (by decide) (va_recv hK.1 hP (ci := 0) (q0 := 1) rfl rfl) rfl hl.1 rfl (Nat.le_of_ble_eq_true rfl) dX3_isWhole_55 ⟨Nat.le_of_ble_eq_true rfl, Nat.le_of_ble_eq_true rfl⟩ (fun H locs a11 hP hD hS => ?_)
          have hP : va_P G vwCl [(hp0, .inr (3, [.ref hp0_story, .ref hp0_machine, .ref hp0_others, .int u6.2.1, .int u6.2.2, .int p0_next, .int p0_sawHead, .int p0_sawMemory, .int p0_sawStack, .int p0_sawBlocks])), (hp1, .inr (0, [.ref hp1_bytes, .int p1_size, .int p1_overflowed])), (hp1_bytes, .inl (E.1, 1200, .inl p1_bytes))] H := hP
          have hD : va_D A [(hp0, .inr (3, [.ref hp0_story, .ref hp0_machine, .ref hp0_others, .int u6.2.1, .int u6.2.2, .int p0_next, .int p0_sawHead, .int p0_sawMemory, .int p0_sawStack, .int p0_sawBlocks])), (hp1, .inr (0, [.ref hp1_bytes, .int p1_size, .int p1_overflowed])), (hp1_bytes, .inl (E.1, 1200, .inl p1_bytes))] := hD
          refine lv_if_eq (tgt := 73) hx hb dX3_isWhole_58 (by decide) (fun c12 => ?_) (fun c12 => ?_)
          · replace h := if_t h c12
            refine lv_iconst (v := 1) hx hb dX3_isWhole_73 (by decide) ?_
            refine lv_goto (tgt := 78) hx hb dX3_isWhole_74 (by decide) ?_
            cases h
            exact ret _ _ _ _ _ (fun _ => 0) rfl rfl (hP.sub [1, 0, 2] rfl) (hD.sub [1, 0, 2] (by decide) rfl) hS dX3_isWhole_78
          · replace h := if_f h c12
            refine lv_aload_n hx hb dX3_isWhole_61 rfl (lv_at hl 0 rfl) ?_
            refine lv_iconst (v := 2) hx hb dX3_isWhole_62 (by decide) ?_
            refine lv_iload hx hb dX3_isWhole_63 (lv_at hl 3 rfl) ?_
            refine lv_iload_n hx hb dX3_isWhole_65 rfl (lv_at hl 2 rfl) ?_
            refine lv_iadd hx hb dX3_isWhole_66 ?_
            obtain ⟨u13, hu13, h⟩ := bd_t h
            refine cVi (wr := [(hp1, .inr (0, [.ref hp1_bytes, .int p1_size, .int p1_overflowed])), (hp1_bytes, .inl (E.1, 1200, .inl p1_bytes))]) (As := [.int (2 : Int32), .int (x1 + i3)]) (rest := []) ⟨hx, hb, hml, hown, hts⟩ (c_X3_fail l G E hp0 hp0_story hp0_machine hp0_others u6.2.1 u6.2.2 p0_next p0_sawHead p0_sawMemory p0_sawStack p0_sawBlocks (2 : Int32) (x1 + i3) u13.1 u13.2.1 u13.2.2 hu13) ok_X3_fail okv_X3_fail wd_c4b21be1 ⟨Nat.le_of_ble_eq_true rfl, Nat.le_of_ble_eq_true rfl⟩ hK hP hD hS hA [0] [1, 2] rfl rfl (by decide) (by decide) (by decide) (va_recv hK.1 hP (ci := 3) (q0 := 0) rfl rfl) rfl hl.1 rfl (Nat.le_of_ble_eq_true rfl) dX3_isWhole_67 ⟨Nat.le_of_ble_eq_true rfl, Nat.le_of_ble_eq_true rfl⟩ (fun H locs a14 hP hD hS => ?_)
            have hP : va_P G vwCl [(hp1, .inr (0, [.ref hp1_bytes, .int p1_size, .int p1_overflowed])), (hp1_bytes, .inl (E.1, 1200, .inl p1_bytes)), (hp0, .inr (3, [.ref hp0_story, .ref hp0_machine, .ref hp0_others, .int u13.2.1, .int u13.2.2, .int p0_next, .int p0_sawHead, .int p0_sawMemory, .int p0_sawStack, .int p0_sawBlocks]))] H := hP
            have hD : va_D A [(hp1, .inr (0, [.ref hp1_bytes, .int p1_size, .int p1_overflowed])), (hp1_bytes, .inl (E.1, 1200, .inl p1_bytes)), (hp0, .inr (3, [.ref hp0_story, .ref hp0_machine, .ref hp0_others, .int u13.2.1, .int u13.2.2, .int p0_next, .int p0_sawHead, .int p0_sawMemory, .int p0_sawStack, .int p0_sawBlocks]))] := hD
            refine lv_if_eq (tgt := 77) hx hb dX3_isWhole_70 (by decide) (fun c15 => ?_) (fun c15 => ?_)
            · replace h := if_t h c15
              refine lv_iconst (v := 0) hx hb dX3_isWhole_77 (by decide) ?_
              cases h
              exact ret _ _ _ _ _ (fun _ => 0) rfl rfl (hP.sub [0, 2, 1] rfl) (hD.sub [0, 2, 1] (by decide) rfl) hS dX3_isWhole_78
            · replace h := if_f h c15
              refine lv_iconst (v := 1) hx hb dX3_isWhole_73 (by decide) ?_
              refine lv_goto (tgt := 78) hx hb dX3_isWhole_74 (by decide) ?_
              cases h
              exact ret _ _ _ _ _ (fun _ => 0) rfl rfl (hP.sub [0, 2, 1] rfl) (hD.sub [0, 2, 1] (by decide) rfl) hS dX3_isWhole_78
      · replace h := if_t h c8
        refine lv_iconst (v := 0) hx hb dX3_isWhole_43 (by decide) ?_
        cases h
        exact ret _ _ _ _ _ (fun _ => 0) rfl rfl (hP.sub [1, 2, 0] rfl) (hD.sub [1, 2, 0] (by decide) rfl) hS dX3_isWhole_44
    refine lv_if_eq (tgt := 35) hx hb dX3_isWhole_25 (by decide) (fun c4 => ?_) (fun c4 => ?_)
    · replace h := if_t h c4
      refine lv_iload_n hx hb dX3_isWhole_35 rfl (lv_at hl 3 rfl) ?_
      refine lv_i2l hx hb dX3_isWhole_36 rfl ?_
      exact hJ37 i3.toInt64 h _ _ _ hP hD hS (lv_sub hl [1, 2, 3, 4, 0] rfl)
    · replace h := if_f h c4
      refine lv_iload_n hx hb dX3_isWhole_28 rfl (lv_at hl 3 rfl) ?_
      refine lv_i2l hx hb dX3_isWhole_29 rfl ?_
      refine lv_lconst (v := 1) hx hb dX3_isWhole_30 (by decide) ?_
      refine lv_ladd hx hb dX3_isWhole_31 ?_
      refine lv_goto (tgt := 37) hx hb dX3_isWhole_32 (by decide) ?_
      exact hJ37 (i3.toInt64 + (1 : Int64)) h _ _ _ hP hD hS (lv_sub hl [1, 2, 3, 4, 0] rfl)
  refine lv_if_eq (tgt := 16) hx hb dX3_isWhole_9 (by decide) (fun c2 => ?_) (fun c2 => ?_)
  · replace h := if_t h c2
    refine lv_iconst (v := 0) hx hb dX3_isWhole_16 (by decide) ?_
    exact hJ17 (0 : Int32) h _ _ _ hP hD hS (lv_sub hl [1, 2, 4, 0] rfl)
  · replace h := if_f h c2
    refine lv_iconst (v := 1) hx hb dX3_isWhole_12 (by decide) ?_
    refine lv_goto (tgt := 17) hx hb dX3_isWhole_13 (by decide) ?_
    exact hJ17 (1 : Int32) h _ _ _ hP hD hS (lv_sub hl [1, 2, 4, 0] rfl)
def B_X3_readHead_2 (i2 : Int32) (p1_bytes : (Nat → Int32)) (p0_story_original : (Nat → Int32)) (rec2 : Int32 → Option (Int32 × Int32 × Int32)) (K42 : Int32 → Option (Int32 × Int32 × Int32)) (z1 : Int32) : Option (Int32 × Int32 × Int32) :=
  if (16 : Int32) ≤ z1 then (
  K42 z1)
  else
  bd (f_X0_byteAt (i2 + z1) p1_bytes) fun u3 =>
  gin z1 512 <|
  if u3 = (p0_story_original z1.toNatClampNeg) then (
  bn (z1 + 1) fun x7 =>
  rec2 x7)
  else
  bd (f_X3_fail (3 : Int32) (i2 + z1)) fun u8 =>
  gbo u8.1 <|
  some (u8.1, u8.2.1, u8.2.2)
def L_X3_readHead_2 (i2 : Int32) (p1_bytes : (Nat → Int32)) (p0_story_original : (Nat → Int32)) (K42 : Int32 → Option (Int32 × Int32 × Int32)) : Nat → Int32 → Option (Int32 × Int32 × Int32)
    | 0, _ => none
    | n + 1, z1 => B_X3_readHead_2 i2 p1_bytes p0_story_original (fun z1 => L_X3_readHead_2 i2 p1_bytes p0_story_original K42 n z1) K42 z1
def f_X3_readHead (N : Nat) (i2 : Int32) (p1_bytes : (Nat → Int32)) (p0_fault : Int32) (p0_place : Int32) (p0_story_original : (Nat → Int32)) : Option (Int32 × Int32 × Int32) :=
  L_X3_readHead_2 i2 p1_bytes p0_story_original 
  (fun z1 =>
  some ((1 : Int32), p0_fault, p0_place)) N (0 : Int32)
abbrev w_rm_X3_readHead : Room := { frames := 1, cells := 0, slots := 0, locals := 22 }
set_option maxHeartbeats 4000000 in
set_option maxRecDepth 100000 in
theorem c_X3_readHead (l : Launch) (G : va_G) (E : ClassId × ClassId × ClassId) (N : Nat) (hp1 : Nat) (hp1_bytes : Nat) (p1_size : Int32) (p1_overflowed : Int32) (p1_bytes : (Nat → Int32)) (hp0 : Nat) (hp0_story : Nat) (hp0_machine : Nat) (hp0_others : Nat) (p0_fault : Int32) (p0_place : Int32) (p0_next : Int32) (p0_sawHead : Int32) (p0_sawMemory : Int32) (p0_sawStack : Int32) (p0_sawBlocks : Int32) (p0_story_ram : Int32) (p0_story_end : Int32) (hp0_story_original : Nat) (p0_story_original : (Nat → Int32)) (i2 : Int32) (r : Int32) (o0 : Int32) (o1 : Int32) (h : f_X3_readHead N i2 p1_bytes p0_fault p0_place p0_story_original = some (r, o0, o1)) : MI l G E yX3_readHead cX3_readHead 4 .boolean w_rm_X3_readHead [.ref hp0, .ref hp1, .int i2] [(hp1, .inr (0, [.ref hp1_bytes, .int p1_size, .int p1_overflowed])), (hp1_bytes, .inl (E.1, 1200, .inl p1_bytes)), (hp0, .inr (3, [.ref hp0_story, .ref hp0_machine, .ref hp0_others, .int p0_fault, .int p0_place, .int p0_next, .int p0_sawHead, .int p0_sawMemory, .int p0_sawStack, .int p0_sawBlocks])), (hp0_story, .inr (4, [.int p0_story_ram, .int p0_story_end, .ref hp0_story_original])), (hp0_story_original, .inl (E.1, 512, .inl p0_story_original))] r (fun a => [(hp1, .inr (0, [.ref hp1_bytes, .int p1_size, .int p1_overflowed])), (hp1_bytes, .inl (E.1, 1200, .inl p1_bytes)), (hp0, .inr (3, [.ref hp0_story, .ref hp0_machine, .ref hp0_others, .int o0, .int o1, .int p0_next, .int p0_sawHead, .int p0_sawMemory, .int p0_sawStack, .int p0_sawBlocks])), (hp0_story, .inr (4, [.int p0_story_ram, .int p0_story_end, .ref hp0_story_original])), (hp0_story_original, .inl (E.1, 512, .inl p0_story_original))]) 0 0 := by
  refine MI_of (by decide) (Nat.le_of_ble_eq_true rfl) ?_
  intro p e s m args below meth c A Q hx hb hml hown hts hK hA hP hD hS ret ls hl
  replace hl : lv_has ls 4 [(0, .ref hp0), (1, .ref hp1), (2, .int i2)] := hl
  unfold f_X3_readHead at h
  refine lv_iconst (v := 0) hx hb dX3_readHead_0 (by decide) ?_
  refine lv_istore_n (lv' := [(3, .int (0 : Int32)), (0, .ref hp0), (1, .ref hp1), (2, .int i2)]) hx hb dX3_readHead_1 rfl hl (by decide) rfl (fun ls hl => ?_)
  have hL2 : ∀ (K42 : Int32 → Option (Int32 × Int32 × Int32)), (∀ (z1 : Int32), K42 z1 = some (r, o0, o1) → ∀ (H : Heap) (locs : List Loc) (ls : Array Slot), va_P G vwCl [(hp1, .inr (0, [.ref hp1_bytes, .int p1_size, .int p1_overflowed])), (hp1_bytes, .inl (E.1, 1200, .inl p1_bytes)), (hp0, .inr (3, [.ref hp0_story, .ref hp0_machine, .ref hp0_others, .int p0_fault, .int p0_place, .int p0_next, .int p0_sawHead, .int p0_sawMemory, .int p0_sawStack, .int p0_sawBlocks])), (hp0_story, .inr (4, [.int p0_story_ram, .int p0_story_end, .ref hp0_story_original])), (hp0_story_original, .inl (E.1, 512, .inl p0_story_original))] H → va_D A [(hp1, .inr (0, [.ref hp1_bytes, .int p1_size, .int p1_overflowed])), (hp1_bytes, .inl (E.1, 1200, .inl p1_bytes)), (hp0, .inr (3, [.ref hp0_story, .ref hp0_machine, .ref hp0_others, .int p0_fault, .int p0_place, .int p0_next, .int p0_sawHead, .int p0_sawMemory, .int p0_sawStack, .int p0_sawBlocks])), (hp0_story, .inr (4, [.int p0_story_ram, .int p0_story_end, .ref hp0_story_original])), (hp0_story_original, .inl (E.1, 512, .inl p0_story_original))] → va_S A s.heap H locs → lv_has ls 4 [] → W p l e w_rm_X3_readHead s m args below meth c H locs 0 0 Q (F0 m 42 ls [])) → ∀ (n : Nat) (z1 : Int32), L_X3_readHead_2 i2 p1_bytes p0_story_original K42 n z1 = some (r, o0, o1) → ∀ (H : Heap) (locs : List Loc) (ls : Array Slot), va_P G vwCl [(hp1, .inr (0, [.ref hp1_bytes, .int p1_size, .int p1_overflowed])), (hp1_bytes, .inl (E.1, 1200, .inl p1_bytes)), (hp0, .inr (3, [.ref hp0_story, .ref hp0_machine, .ref hp0_others, .int p0_fault, .int p0_place, .int p0_next, .int p0_sawHead, .int p0_sawMemory, .int p0_sawStack, .int p0_sawBlocks])), (hp0_story, .inr (4, [.int p0_story_ram, .int p0_story_end, .ref hp0_story_original])), (hp0_story_original, .inl (E.1, 512, .inl p0_story_original))] H → va_D A [(hp1, .inr (0, [.ref hp1_bytes, .int p1_size, .int p1_overflowed])), (hp1_bytes, .inl (E.1, 1200, .inl p1_bytes)), (hp0, .inr (3, [.ref hp0_story, .ref hp0_machine, .ref hp0_others, .int p0_fault, .int p0_place, .int p0_next, .int p0_sawHead, .int p0_sawMemory, .int p0_sawStack, .int p0_sawBlocks])), (hp0_story, .inr (4, [.int p0_story_ram, .int p0_story_end, .ref hp0_story_original])), (hp0_story_original, .inl (E.1, 512, .inl p0_story_original))] → va_S A s.heap H locs → lv_has ls 4 [(0, .ref hp0), (1, .ref hp1), (2, .int i2), (3, .int z1)] → W p l e w_rm_X3_readHead s m args below meth c H locs 0 0 Q (F0 m 2 ls []) := by
    intro K42 hK42 n
    induction n with
    | zero =>
      intro z1 h
      replace h : (none : Option (Int32 × Int32 × Int32)) = some (r, o0, o1) := h
      cases h
    | succ n ih =>
      intro z1 h H locs ls hP hD hS hl
      replace h : B_X3_readHead_2 i2 p1_bytes p0_story_original (fun z1 => L_X3_readHead_2 i2 p1_bytes p0_story_original K42 n z1) K42 z1 = some (r, o0, o1) := h
      obtain ⟨rec2, hrec2⟩ : ∃ f : Int32 → Option (Int32 × Int32 × Int32), f = (fun z1 => L_X3_readHead_2 i2 p1_bytes p0_story_original K42 n z1) := ⟨_, rfl⟩
      rw [← hrec2] at h
      unfold B_X3_readHead_2 at h
      refine lv_iload_n hx hb dX3_readHead_2 rfl (lv_at hl 3 rfl) ?_
      refine lv_bipush (v := 16) hx hb dX3_readHead_3 (by decide) ?_
      refine lv_icmp_ge (tgt := 42) hx hb dX3_readHead_5 (by decide) (fun c2 => ?_) (fun c2 => ?_)
      · replace h := if_t h c2
        exact hK42 z1 h _ _ _ hP hD hS (lv_sub hl [] rfl)
      · replace h := if_f h c2
        refine lv_aload_n hx hb dX3_readHead_8 rfl (lv_at hl 1 rfl) ?_
        refine lv_iload_n hx hb dX3_readHead_9 rfl (lv_at hl 2 rfl) ?_
        refine lv_iload_n hx hb dX3_readHead_10 rfl (lv_at hl 3 rfl) ?_
        refine lv_iadd hx hb dX3_readHead_11 ?_
        obtain ⟨u3, hu3, h⟩ := bd_t h
        refine cVi (wr := [(hp0, .inr (3, [.ref hp0_story, .ref hp0_machine, .ref hp0_others, .int p0_fault, .int p0_place, .int p0_next, .int p0_sawHead, .int p0_sawMemory, .int p0_sawStack, .int p0_sawBlocks])), (hp0_story, .inr (4, [.int p0_story_ram, .int p0_story_end, .ref hp0_story_original])), (hp0_story_original, .inl (E.1, 512, .inl p0_story_original))]) (As := [.int (i2 + z1)]) (rest := []) ⟨hx, hb, hml, hown, hts⟩ (c_X0_byteAt l G E hp1 hp1_bytes p1_size p1_overflowed p1_bytes (i2 + z1) u3 hu3) ok_X0_byteAt okv_X0_byteAt wd_bca33b46 ⟨Nat.le_of_ble_eq_true rfl, Nat.le_of_ble_eq_true rfl⟩ hK hP hD hS hA [0, 1] [2, 3, 4] rfl rfl (by decide) (by decide) (by decide) (va_recv hK.1 hP (ci := 0) (q0 := 0) rfl rfl) rfl hl.1 rfl (Nat.le_of_ble_eq_true rfl) dX3_readHead_12 ⟨Nat.le_of_ble_eq_true rfl, Nat.le_of_ble_eq_true rfl⟩ (fun H locs a4 hP hD hS => ?_)
        have hP : va_P G vwCl [(hp0, .inr (3, [.ref hp0_story, .ref hp0_machine, .ref hp0_others, .int p0_fault, .int p0_place, .int p0_next, .int p0_sawHead, .int p0_sawMemory, .int p0_sawStack, .int p0_sawBlocks])), (hp0_story, .inr (4, [.int p0_story_ram, .int p0_story_end, .ref hp0_story_original])), (hp0_story_original, .inl (E.1, 512, .inl p0_story_original)), (hp1, .inr (0, [.ref hp1_bytes, .int p1_size, .int p1_overflowed])), (hp1_bytes, .inl (E.1, 1200, .inl p1_bytes))] H := hP
        have hD : va_D A [(hp0, .inr (3, [.ref hp0_story, .ref hp0_machine, .ref hp0_others, .int p0_fault, .int p0_place, .int p0_next, .int p0_sawHead, .int p0_sawMemory, .int p0_sawStack, .int p0_sawBlocks])), (hp0_story, .inr (4, [.int p0_story_ram, .int p0_story_end, .ref hp0_story_original])), (hp0_story_original, .inl (E.1, 512, .inl p0_story_original)), (hp1, .inr (0, [.ref hp1_bytes, .int p1_size, .int p1_overflowed])), (hp1_bytes, .inl (E.1, 1200, .inl p1_bytes))] := hD
        refine lv_aload_n hx hb dX3_readHead_15 rfl (lv_at hl 0 rfl) ?_
        refine getF (D := G) (ci := 3) (v := .ref hp0_story) (C := RX3) (T := TX3) (N := 10) hx hb hts inG_X3 hown hK.1 hP 0 rfl rfl 0 (by decide) tf_X3_0 (hts _ wd_6692ab2b) rfl dX3_readHead_16 ?_
        refine getF (D := G) (ci := 4) (v := .ref hp0_story_original) (C := RX4) (T := TX4) (N := 3) hx hb hts inG_X4 hown hK.1 hP 1 rfl rfl 2 (by decide) tf_X4_2 (hts _ wd_3b194652) rfl dX3_readHead_19 ?_
        refine lv_iload_n hx hb dX3_readHead_22 rfl (lv_at hl 3 rfl) ?_
        obtain ⟨g5, h⟩ := gin_t h
        refine va_iald hx hb hK.1 hP 2 0 rfl rfl g5 dX3_readHead_23 ?_
        refine lv_icmp_eq (tgt := 36) hx hb dX3_readHead_24 (by decide) (fun c6 => ?_) (fun c6 => ?_)
        · replace h := if_t h c6
          obtain ⟨x7, ex7⟩ : ∃ y : Int32, y = z1 + 1 := ⟨_, rfl⟩
          replace h := bn_t h ex7
          refine lv_iinc (v := x7) (lv' := [(3, .int x7), (0, .ref hp0), (1, .ref hp1), (2, .int i2)]) hx hb dX3_readHead_36 hl (k := 3) rfl (by rw [ex7]; rfl) (by decide) rfl (fun ls hl => ?_)
          refine lv_goto (tgt := 2) hx hb dX3_readHead_39 (by decide) ?_
          exact ih x7 (by rw [hrec2] at h; exact h) _ _ _ (hP.sub [3, 4, 0, 1, 2] rfl) (hD.sub [3, 4, 0, 1, 2] (by decide) rfl) hS (lv_sub hl [1, 2, 3, 0] rfl)
        · replace h := if_f h c6
          refine lv_aload_n hx hb dX3_readHead_27 rfl (lv_at hl 0 rfl) ?_
          refine lv_iconst (v := 3) hx hb dX3_readHead_28 (by decide) ?_
          refine lv_iload_n hx hb dX3_readHead_29 rfl (lv_at hl 2 rfl) ?_
          refine lv_iload_n hx hb dX3_readHead_30 rfl (lv_at hl 3 rfl) ?_
          refine lv_iadd hx hb dX3_readHead_31 ?_
          obtain ⟨u8, hu8, h⟩ := bd_t h
          refine cVi (wr := [(hp0_story, .inr (4, [.int p0_story_ram, .int p0_story_end, .ref hp0_story_original])), (hp0_story_original, .inl (E.1, 512, .inl p0_story_original)), (hp1, .inr (0, [.ref hp1_bytes, .int p1_size, .int p1_overflowed])), (hp1_bytes, .inl (E.1, 1200, .inl p1_bytes))]) (As := [.int (3 : Int32), .int (i2 + z1)]) (rest := []) ⟨hx, hb, hml, hown, hts⟩ (c_X3_fail l G E hp0 hp0_story hp0_machine hp0_others p0_fault p0_place p0_next p0_sawHead p0_sawMemory p0_sawStack p0_sawBlocks (3 : Int32) (i2 + z1) u8.1 u8.2.1 u8.2.2 hu8) ok_X3_fail okv_X3_fail wd_c4b21be1 ⟨Nat.le_of_ble_eq_true rfl, Nat.le_of_ble_eq_true rfl⟩ hK hP hD hS hA [0] [1, 2, 3, 4] rfl rfl (by decide) (by decide) (by decide) (va_recv hK.1 hP (ci := 3) (q0 := 0) rfl rfl) rfl hl.1 rfl (Nat.le_of_ble_eq_true rfl) dX3_readHead_32 ⟨Nat.le_of_ble_eq_true rfl, Nat.le_of_ble_eq_true rfl⟩ (fun H locs a9 hP hD hS => ?_)
          have hP : va_P G vwCl [(hp0_story, .inr (4, [.int p0_story_ram, .int p0_story_end, .ref hp0_story_original])), (hp0_story_original, .inl (E.1, 512, .inl p0_story_original)), (hp1, .inr (0, [.ref hp1_bytes, .int p1_size, .int p1_overflowed])), (hp1_bytes, .inl (E.1, 1200, .inl p1_bytes)), (hp0, .inr (3, [.ref hp0_story, .ref hp0_machine, .ref hp0_others, .int u8.2.1, .int u8.2.2, .int p0_next, .int p0_sawHead, .int p0_sawMemory, .int p0_sawStack, .int p0_sawBlocks]))] H := hP
          have hD : va_D A [(hp0_story, .inr (4, [.int p0_story_ram, .int p0_story_end, .ref hp0_story_original])), (hp0_story_original, .inl (E.1, 512, .inl p0_story_original)), (hp1, .inr (0, [.ref hp1_bytes, .int p1_size, .int p1_overflowed])), (hp1_bytes, .inl (E.1, 1200, .inl p1_bytes)), (hp0, .inr (3, [.ref hp0_story, .ref hp0_machine, .ref hp0_others, .int u8.2.1, .int u8.2.2, .int p0_next, .int p0_sawHead, .int p0_sawMemory, .int p0_sawStack, .int p0_sawBlocks]))] := hD
          obtain ⟨g10, h⟩ := gbo_t h
          cases h
          exact ret _ _ _ _ _ (fun _ => 0) rfl (bo_nar g10) (hP.sub [2, 3, 4, 0, 1] rfl) (hD.sub [2, 3, 4, 0, 1] (by decide) rfl) hS dX3_readHead_35
  refine hL2 _ (fun z1 h H locs ls hP hD hS hl => ?_) N (0 : Int32) h _ _ _ hP hD hS (lv_sub hl [1, 2, 3, 0] rfl)
  try dsimp only at h
  refine lv_iconst (v := 1) hx hb dX3_readHead_42 (by decide) ?_
  cases h
  exact ret _ _ _ _ _ (fun _ => 0) rfl rfl hP hD hS dX3_readHead_43
def f_X3_readSize (i2 : Int32) (p1_bytes : (Nat → Int32)) (p0_fault : Int32) (p0_place : Int32) (p0_story_end : Int32) (p0_machine_size : Int32) : Option (Int32 × Int32 × Int32 × Int32) :=
  bd (f_X0_fourAt i2 p1_bytes) fun u1 =>
  bd (f_X4_allowsSize u1 p0_story_end) fun u3 =>
  if u3 = 0 then (
  bd (f_X3_fail (6 : Int32) i2) fun u6 =>
  gbo u6.1 <|
  some (u6.1, u6.2.1, u6.2.2, p0_machine_size))
  else
  some ((1 : Int32), p0_fault, p0_place, u1)
abbrev w_rm_X3_readSize : Room := { frames := 2, cells := 0, slots := 0, locals := 44 }
set_option maxHeartbeats 4000000 in
set_option maxRecDepth 100000 in
theorem c_X3_readSize (l : Launch) (G : va_G) (E : ClassId × ClassId × ClassId) (hp1 : Nat) (hp1_bytes : Nat) (p1_size : Int32) (p1_overflowed : Int32) (p1_bytes : (Nat → Int32)) (hp0 : Nat) (hp0_story : Nat) (hp0_machine : Nat) (hp0_others : Nat) (p0_fault : Int32) (p0_place : Int32) (p0_next : Int32) (p0_sawHead : Int32) (p0_sawMemory : Int32) (p0_sawStack : Int32) (p0_sawBlocks : Int32) (p0_story_ram : Int32) (p0_story_end : Int32) (hp0_story_original : Nat) (hp0_machine_memory : Nat) (p0_machine_size : Int32) (hp0_machine_stack : Nat) (p0_machine_depth : Int32) (hp0_machine_starts : Nat) (hp0_machine_lengths : Nat) (p0_machine_blocks : Int32) (i2 : Int32) (r : Int32) (o0 : Int32) (o1 : Int32) (o2 : Int32) (h : f_X3_readSize i2 p1_bytes p0_fault p0_place p0_story_end p0_machine_size = some (r, o0, o1, o2)) : MI l G E yX3_readSize cX3_readSize 4 .boolean w_rm_X3_readSize [.ref hp0, .ref hp1, .int i2] [(hp1, .inr (0, [.ref hp1_bytes, .int p1_size, .int p1_overflowed])), (hp1_bytes, .inl (E.1, 1200, .inl p1_bytes)), (hp0, .inr (3, [.ref hp0_story, .ref hp0_machine, .ref hp0_others, .int p0_fault, .int p0_place, .int p0_next, .int p0_sawHead, .int p0_sawMemory, .int p0_sawStack, .int p0_sawBlocks])), (hp0_story, .inr (4, [.int p0_story_ram, .int p0_story_end, .ref hp0_story_original])), (hp0_machine, .inr (1, [.ref hp0_machine_memory, .int p0_machine_size, .ref hp0_machine_stack, .int p0_machine_depth, .ref hp0_machine_starts, .ref hp0_machine_lengths, .int p0_machine_blocks]))] r (fun a => [(hp1, .inr (0, [.ref hp1_bytes, .int p1_size, .int p1_overflowed])), (hp1_bytes, .inl (E.1, 1200, .inl p1_bytes)), (hp0, .inr (3, [.ref hp0_story, .ref hp0_machine, .ref hp0_others, .int o0, .int o1, .int p0_next, .int p0_sawHead, .int p0_sawMemory, .int p0_sawStack, .int p0_sawBlocks])), (hp0_story, .inr (4, [.int p0_story_ram, .int p0_story_end, .ref hp0_story_original])), (hp0_machine, .inr (1, [.ref hp0_machine_memory, .int o2, .ref hp0_machine_stack, .int p0_machine_depth, .ref hp0_machine_starts, .ref hp0_machine_lengths, .int p0_machine_blocks]))]) 0 0 := by
  refine MI_of (by decide) (Nat.le_of_ble_eq_true rfl) ?_
  intro p e s m args below meth c A Q hx hb hml hown hts hK hA hP hD hS ret ls hl
  replace hl : lv_has ls 4 [(0, .ref hp0), (1, .ref hp1), (2, .int i2)] := hl
  unfold f_X3_readSize at h
  refine lv_aload_n hx hb dX3_readSize_0 rfl (lv_at hl 1 rfl) ?_
  refine lv_iload_n hx hb dX3_readSize_1 rfl (lv_at hl 2 rfl) ?_
  obtain ⟨u1, hu1, h⟩ := bd_t h
  refine cVi (wr := [(hp0, .inr (3, [.ref hp0_story, .ref hp0_machine, .ref hp0_others, .int p0_fault, .int p0_place, .int p0_next, .int p0_sawHead, .int p0_sawMemory, .int p0_sawStack, .int p0_sawBlocks])), (hp0_story, .inr (4, [.int p0_story_ram, .int p0_story_end, .ref hp0_story_original])), (hp0_machine, .inr (1, [.ref hp0_machine_memory, .int p0_machine_size, .ref hp0_machine_stack, .int p0_machine_depth, .ref hp0_machine_starts, .ref hp0_machine_lengths, .int p0_machine_blocks]))]) (As := [.int i2]) (rest := []) ⟨hx, hb, hml, hown, hts⟩ (c_X0_fourAt l G E hp1 hp1_bytes p1_size p1_overflowed p1_bytes i2 u1 hu1) ok_X0_fourAt okv_X0_fourAt wd_6a67b9d3 ⟨Nat.le_of_ble_eq_true rfl, Nat.le_of_ble_eq_true rfl⟩ hK hP hD hS hA [0, 1] [2, 3, 4] rfl rfl (by decide) (by decide) (by decide) (va_recv hK.1 hP (ci := 0) (q0 := 0) rfl rfl) rfl hl.1 rfl (Nat.le_of_ble_eq_true rfl) dX3_readSize_2 ⟨Nat.le_of_ble_eq_true rfl, Nat.le_of_ble_eq_true rfl⟩ (fun H locs a2 hP hD hS => ?_)
  have hP : va_P G vwCl [(hp0, .inr (3, [.ref hp0_story, .ref hp0_machine, .ref hp0_others, .int p0_fault, .int p0_place, .int p0_next, .int p0_sawHead, .int p0_sawMemory, .int p0_sawStack, .int p0_sawBlocks])), (hp0_story, .inr (4, [.int p0_story_ram, .int p0_story_end, .ref hp0_story_original])), (hp0_machine, .inr (1, [.ref hp0_machine_memory, .int p0_machine_size, .ref hp0_machine_stack, .int p0_machine_depth, .ref hp0_machine_starts, .ref hp0_machine_lengths, .int p0_machine_blocks])), (hp1, .inr (0, [.ref hp1_bytes, .int p1_size, .int p1_overflowed])), (hp1_bytes, .inl (E.1, 1200, .inl p1_bytes))] H := hP
  have hD : va_D A [(hp0, .inr (3, [.ref hp0_story, .ref hp0_machine, .ref hp0_others, .int p0_fault, .int p0_place, .int p0_next, .int p0_sawHead, .int p0_sawMemory, .int p0_sawStack, .int p0_sawBlocks])), (hp0_story, .inr (4, [.int p0_story_ram, .int p0_story_end, .ref hp0_story_original])), (hp0_machine, .inr (1, [.ref hp0_machine_memory, .int p0_machine_size, .ref hp0_machine_stack, .int p0_machine_depth, .ref hp0_machine_starts, .ref hp0_machine_lengths, .int p0_machine_blocks])), (hp1, .inr (0, [.ref hp1_bytes, .int p1_size, .int p1_overflowed])), (hp1_bytes, .inl (E.1, 1200, .inl p1_bytes))] := hD
  refine lv_istore_n (lv' := [(3, .int u1), (0, .ref hp0), (1, .ref hp1), (2, .int i2)]) hx hb dX3_readSize_5 rfl hl (by decide) rfl (fun ls hl => ?_)
  refine lv_aload_n hx hb dX3_readSize_6 rfl (lv_at hl 1 rfl) ?_
  refine getF (D := G) (ci := 3) (v := .ref hp0_story) (C := RX3) (T := TX3) (N := 10) hx hb hts inG_X3 hown hK.1 hP 0 rfl rfl 0 (by decide) tf_X3_0 (hts _ wd_6692ab2b) rfl dX3_readSize_7 ?_
  refine lv_iload_n hx hb dX3_readSize_10 rfl (lv_at hl 0 rfl) ?_
  obtain ⟨u3, hu3, h⟩ := bd_t h
  refine cVi (wr := [(hp0, .inr (3, [.ref hp0_story, .ref hp0_machine, .ref hp0_others, .int p0_fault, .int p0_place, .int p0_next, .int p0_sawHead, .int p0_sawMemory, .int p0_sawStack, .int p0_sawBlocks])), (hp0_machine, .inr (1, [.ref hp0_machine_memory, .int p0_machine_size, .ref hp0_machine_stack, .int p0_machine_depth, .ref hp0_machine_starts, .ref hp0_machine_lengths, .int p0_machine_blocks])), (hp1, .inr (0, [.ref hp1_bytes, .int p1_size, .int p1_overflowed])), (hp1_bytes, .inl (E.1, 1200, .inl p1_bytes))]) (As := [.int u1]) (rest := []) ⟨hx, hb, hml, hown, hts⟩ (c_X4_allowsSize l G E hp0_story p0_story_ram p0_story_end hp0_story_original u1 u3 hu3) ok_X4_allowsSize okv_X4_allowsSize wd_fe02a09c ⟨Nat.le_of_ble_eq_true rfl, Nat.le_of_ble_eq_true rfl⟩ hK hP hD hS hA [1] [0, 2, 3, 4] rfl rfl (by decide) (by decide) (by decide) (va_recv hK.1 hP (ci := 4) (q0 := 1) rfl rfl) rfl hl.1 rfl (Nat.le_of_ble_eq_true rfl) dX3_readSize_11 ⟨Nat.le_of_ble_eq_true rfl, Nat.le_of_ble_eq_true rfl⟩ (fun H locs a4 hP hD hS => ?_)
  have hP : va_P G vwCl [(hp0, .inr (3, [.ref hp0_story, .ref hp0_machine, .ref hp0_others, .int p0_fault, .int p0_place, .int p0_next, .int p0_sawHead, .int p0_sawMemory, .int p0_sawStack, .int p0_sawBlocks])), (hp0_machine, .inr (1, [.ref hp0_machine_memory, .int p0_machine_size, .ref hp0_machine_stack, .int p0_machine_depth, .ref hp0_machine_starts, .ref hp0_machine_lengths, .int p0_machine_blocks])), (hp1, .inr (0, [.ref hp1_bytes, .int p1_size, .int p1_overflowed])), (hp1_bytes, .inl (E.1, 1200, .inl p1_bytes)), (hp0_story, .inr (4, [.int p0_story_ram, .int p0_story_end, .ref hp0_story_original]))] H := hP
  have hD : va_D A [(hp0, .inr (3, [.ref hp0_story, .ref hp0_machine, .ref hp0_others, .int p0_fault, .int p0_place, .int p0_next, .int p0_sawHead, .int p0_sawMemory, .int p0_sawStack, .int p0_sawBlocks])), (hp0_machine, .inr (1, [.ref hp0_machine_memory, .int p0_machine_size, .ref hp0_machine_stack, .int p0_machine_depth, .ref hp0_machine_starts, .ref hp0_machine_lengths, .int p0_machine_blocks])), (hp1, .inr (0, [.ref hp1_bytes, .int p1_size, .int p1_overflowed])), (hp1_bytes, .inl (E.1, 1200, .inl p1_bytes)), (hp0_story, .inr (4, [.int p0_story_ram, .int p0_story_end, .ref hp0_story_original]))] := hD
  refine lv_if_ne (tgt := 25) hx hb dX3_readSize_14 (by decide) (fun c5 => ?_) (fun c5 => ?_)
  · replace h := if_f h c5
    refine lv_aload_n hx hb dX3_readSize_25 rfl (lv_at hl 1 rfl) ?_
    refine getF (D := G) (ci := 3) (v := .ref hp0_machine) (C := RX3) (T := TX3) (N := 10) hx hb hts inG_X3 hown hK.1 hP 0 rfl rfl 1 (by decide) tf_X3_1 (hts _ wd_4f086646) rfl dX3_readSize_26 ?_
    refine lv_iload_n hx hb dX3_readSize_29 rfl (lv_at hl 0 rfl) ?_
    refine putF (D := G) (ci := 1) (v := .int u1) (ty := .int) (C := RX1) (T := TX1) (N := 7) hx hb hts inG_X1 tyX1 tyX1_ok nmX1 hown hK.1 hP hD hS 1 rfl rfl 1 (by decide) tf_X1_1 (hts _ wd_49726459) pd_I rfl rfl (Nat.le_of_ble_eq_true rfl) dX3_readSize_30 (fun H locs hP hD hS => ?_)
    have hP : va_P G vwCl [(hp0, .inr (3, [.ref hp0_story, .ref hp0_machine, .ref hp0_others, .int p0_fault, .int p0_place, .int p0_next, .int p0_sawHead, .int p0_sawMemory, .int p0_sawStack, .int p0_sawBlocks])), (hp0_machine, .inr (1, [.ref hp0_machine_memory, .int u1, .ref hp0_machine_stack, .int p0_machine_depth, .ref hp0_machine_starts, .ref hp0_machine_lengths, .int p0_machine_blocks])), (hp1, .inr (0, [.ref hp1_bytes, .int p1_size, .int p1_overflowed])), (hp1_bytes, .inl (E.1, 1200, .inl p1_bytes)), (hp0_story, .inr (4, [.int p0_story_ram, .int p0_story_end, .ref hp0_story_original]))] H := hP
    have hD : va_D A [(hp0, .inr (3, [.ref hp0_story, .ref hp0_machine, .ref hp0_others, .int p0_fault, .int p0_place, .int p0_next, .int p0_sawHead, .int p0_sawMemory, .int p0_sawStack, .int p0_sawBlocks])), (hp0_machine, .inr (1, [.ref hp0_machine_memory, .int u1, .ref hp0_machine_stack, .int p0_machine_depth, .ref hp0_machine_starts, .ref hp0_machine_lengths, .int p0_machine_blocks])), (hp1, .inr (0, [.ref hp1_bytes, .int p1_size, .int p1_overflowed])), (hp1_bytes, .inl (E.1, 1200, .inl p1_bytes)), (hp0_story, .inr (4, [.int p0_story_ram, .int p0_story_end, .ref hp0_story_original]))] := hD
    refine lv_iconst (v := 1) hx hb dX3_readSize_33 (by decide) ?_
    cases h
    exact ret _ _ _ _ _ (fun _ => 0) rfl rfl (hP.sub [2, 3, 0, 4, 1] rfl) (hD.sub [2, 3, 0, 4, 1] (by decide) rfl) hS dX3_readSize_34
  · replace h := if_t h c5
    refine lv_aload_n hx hb dX3_readSize_17 rfl (lv_at hl 1 rfl) ?_
    refine lv_bipush (v := 6) hx hb dX3_readSize_18 (by decide) ?_
    refine lv_iload_n hx hb dX3_readSize_20 rfl (lv_at hl 3 rfl) ?_
    obtain ⟨u6, hu6, h⟩ := bd_t h
    refine cVi (wr := [(hp0_machine, .inr (1, [.ref hp0_machine_memory, .int p0_machine_size, .ref hp0_machine_stack, .int p0_machine_depth, .ref hp0_machine_starts, .ref hp0_machine_lengths, .int p0_machine_blocks])), (hp1, .inr (0, [.ref hp1_bytes, .int p1_size, .int p1_overflowed])), (hp1_bytes, .inl (E.1, 1200, .inl p1_bytes)), (hp0_story, .inr (4, [.int p0_story_ram, .int p0_story_end, .ref hp0_story_original]))]) (As := [.int (6 : Int32), .int i2]) (rest := []) ⟨hx, hb, hml, hown, hts⟩ (c_X3_fail l G E hp0 hp0_story hp0_machine hp0_others p0_fault p0_place p0_next p0_sawHead p0_sawMemory p0_sawStack p0_sawBlocks (6 : Int32) i2 u6.1 u6.2.1 u6.2.2 hu6) ok_X3_fail okv_X3_fail wd_c4b21be1 ⟨Nat.le_of_ble_eq_true rfl, Nat.le_of_ble_eq_true rfl⟩ hK hP hD hS hA [0] [1, 2, 3, 4] rfl rfl (by decide) (by decide) (by decide) (va_recv hK.1 hP (ci := 3) (q0 := 0) rfl rfl) rfl hl.1 rfl (Nat.le_of_ble_eq_true rfl) dX3_readSize_21 ⟨Nat.le_of_ble_eq_true rfl, Nat.le_of_ble_eq_true rfl⟩ (fun H locs a7 hP hD hS => ?_)
    have hP : va_P G vwCl [(hp0_machine, .inr (1, [.ref hp0_machine_memory, .int p0_machine_size, .ref hp0_machine_stack, .int p0_machine_depth, .ref hp0_machine_starts, .ref hp0_machine_lengths, .int p0_machine_blocks])), (hp1, .inr (0, [.ref hp1_bytes, .int p1_size, .int p1_overflowed])), (hp1_bytes, .inl (E.1, 1200, .inl p1_bytes)), (hp0_story, .inr (4, [.int p0_story_ram, .int p0_story_end, .ref hp0_story_original])), (hp0, .inr (3, [.ref hp0_story, .ref hp0_machine, .ref hp0_others, .int u6.2.1, .int u6.2.2, .int p0_next, .int p0_sawHead, .int p0_sawMemory, .int p0_sawStack, .int p0_sawBlocks]))] H := hP
    have hD : va_D A [(hp0_machine, .inr (1, [.ref hp0_machine_memory, .int p0_machine_size, .ref hp0_machine_stack, .int p0_machine_depth, .ref hp0_machine_starts, .ref hp0_machine_lengths, .int p0_machine_blocks])), (hp1, .inr (0, [.ref hp1_bytes, .int p1_size, .int p1_overflowed])), (hp1_bytes, .inl (E.1, 1200, .inl p1_bytes)), (hp0_story, .inr (4, [.int p0_story_ram, .int p0_story_end, .ref hp0_story_original])), (hp0, .inr (3, [.ref hp0_story, .ref hp0_machine, .ref hp0_others, .int u6.2.1, .int u6.2.2, .int p0_next, .int p0_sawHead, .int p0_sawMemory, .int p0_sawStack, .int p0_sawBlocks]))] := hD
    obtain ⟨g8, h⟩ := gbo_t h
    cases h
    exact ret _ _ _ _ _ (fun _ => 0) rfl (bo_nar g8) (hP.sub [1, 2, 4, 3, 0] rfl) (hD.sub [1, 2, 4, 3, 0] (by decide) rfl) hS dX3_readSize_24
def J_X3_readMemory_111 (z1 : (Nat → Int32)) (z3 : Int32)  : Option (Int32 × Int32 × Int32 × (Nat → Int32)) :=
  bd (f_X3_fail (6 : Int32) z3) fun u13 =>
  gbo u13.1 <|
  some (u13.1, u13.2.1, u13.2.2, z1)
def J_X3_readMemory_78 (p0_machine_size : Int32) (z1 : (Nat → Int32)) (z2 : Int32) (z3 : Int32) (rec15 : (Nat → Int32) → Int32 → Int32 → Option (Int32 × Int32 × Int32 × (Nat → Int32))) (u5 : (Int32)) (y8 : Int32) (y11 : Int32) : Option (Int32 × Int32 × Int32 × (Nat → Int32)) :=
  if z2 < 0 then (
  J_X3_readMemory_111 z1 z3)
  else
  if p0_machine_size < (z2 + y11) then (
  J_X3_readMemory_111 z1 z3)
  else
  if (z2 + y11) ≤ (512 : Int32) then (
  gin z2 512 <|
  bn ((z1 z2.toNatClampNeg) ^^^ u5) fun x19 =>
  gin z2 512 <|
  bn (upd z1 z2.toNatClampNeg x19) fun m21 =>
  bn (z2 + y11) fun x22 =>
  bn (z3 + y8) fun x23 =>
  rec15 m21 x22 x23)
  else
  J_X3_readMemory_111 z1 z3
def J_X3_readMemory_39 (i3 : Int32) (p1_bytes : (Nat → Int32)) (p0_machine_size : Int32) (z1 : (Nat → Int32)) (z2 : Int32) (z3 : Int32) (rec15 : (Nat → Int32) → Int32 → Int32 → Option (Int32 × Int32 × Int32 × (Nat → Int32))) (u5 : (Int32)) (y8 : Int32) : Option (Int32 × Int32 × Int32 × (Nat → Int32)) :=
  if (z3 + y8) ≤ i3 then (
  if u5 = 0 then (
  bd (f_X0_byteAt (z3 + (1 : Int32)) p1_bytes) fun u24 =>
  J_X3_readMemory_78 p0_machine_size z1 z2 z3 rec15 u5 y8 (u24 + (1 : Int32)))
  else
  J_X3_readMemory_78 p0_machine_size z1 z2 z3 rec15 u5 y8 (1 : Int32))
  else
  bd (f_X3_fail (6 : Int32) z3) fun u26 =>
  gbo u26.1 <|
  some (u26.1, u26.2.1, u26.2.2, z1)
def B_X3_readMemory_15 (i3 : Int32) (p1_bytes : (Nat → Int32)) (p0_machine_size : Int32) (rec15 : (Nat → Int32) → Int32 → Int32 → Option (Int32 × Int32 × Int32 × (Nat → Int32))) (K152 : (Nat → Int32) → Int32 → Int32 → Option (Int32 × Int32 × Int32 × (Nat → Int32))) (z1 : (Nat → Int32)) (z2 : Int32) (z3 : Int32) : Option (Int32 × Int32 × Int32 × (Nat → Int32)) :=
  if i3 ≤ z3 then (
  K152 z1 z2 z3)
  else
  bd (f_X0_byteAt z3 p1_bytes) fun u5 =>
  if u5 = 0 then (
  J_X3_readMemory_39 i3 p1_bytes p0_machine_size z1 z2 z3 rec15 u5 (2 : Int32))
  else
  J_X3_readMemory_39 i3 p1_bytes p0_machine_size z1 z2 z3 rec15 u5 (1 : Int32)
def L_X3_readMemory_15 (i3 : Int32) (p1_bytes : (Nat → Int32)) (p0_machine_size : Int32) (K152 : (Nat → Int32) → Int32 → Int32 → Option (Int32 × Int32 × Int32 × (Nat → Int32))) : Nat → (Nat → Int32) → Int32 → Int32 → Option (Int32 × Int32 × Int32 × (Nat → Int32))
    | 0, _, _, _ => none
    | n + 1, z1, z2, z3 => B_X3_readMemory_15 i3 p1_bytes p0_machine_size (fun z1 z2 z3 => L_X3_readMemory_15 i3 p1_bytes p0_machine_size K152 n z1 z2 z3) K152 z1 z2 z3
def f_X3_readMemory (N : Nat) (i2 : Int32) (i3 : Int32) (p0_fault : Int32) (p0_place : Int32) (p0_story_ram : Int32) (p1_bytes : (Nat → Int32)) (p0_machine_size : Int32) (p0_machine_memory : (Nat → Int32)) : Option (Int32 × Int32 × Int32 × (Nat → Int32)) :=
  L_X3_readMemory_15 i3 p1_bytes p0_machine_size 
  (fun z1 z2 z3 =>
  some ((1 : Int32), p0_fault, p0_place, z1)) N p0_machine_memory p0_story_ram i2
abbrev w_rm_X3_readMemory : Room := { frames := 1, cells := 0, slots := 0, locals := 22 }
set_option maxHeartbeats 4000000 in
set_option maxRecDepth 100000 in
theorem c_X3_readMemory (l : Launch) (G : va_G) (E : ClassId × ClassId × ClassId) (N : Nat) (hp0 : Nat) (hp0_story : Nat) (hp0_machine : Nat) (hp0_others : Nat) (p0_fault : Int32) (p0_place : Int32) (p0_next : Int32) (p0_sawHead : Int32) (p0_sawMemory : Int32) (p0_sawStack : Int32) (p0_sawBlocks : Int32) (p0_story_ram : Int32) (p0_story_end : Int32) (hp0_story_original : Nat) (hp1 : Nat) (hp1_bytes : Nat) (p1_size : Int32) (p1_overflowed : Int32) (p1_bytes : (Nat → Int32)) (hp0_machine_memory : Nat) (p0_machine_size : Int32) (hp0_machine_stack : Nat) (p0_machine_depth : Int32) (hp0_machine_starts : Nat) (hp0_machine_lengths : Nat) (p0_machine_blocks : Int32) (p0_machine_memory : (Nat → Int32)) (i2 : Int32) (i3 : Int32) (r : Int32) (o0 : Int32) (o1 : Int32) (o2 : (Nat → Int32)) (h : f_X3_readMemory N i2 i3 p0_fault p0_place p0_story_ram p1_bytes p0_machine_size p0_machine_memory = some (r, o0, o1, o2)) : MI l G E yX3_readMemory cX3_readMemory 9 .boolean w_rm_X3_readMemory [.ref hp0, .ref hp1, .int i2, .int i3] [(hp0, .inr (3, [.ref hp0_story, .ref hp0_machine, .ref hp0_others, .int p0_fault, .int p0_place, .int p0_next, .int p0_sawHead, .int p0_sawMemory, .int p0_sawStack, .int p0_sawBlocks])), (hp0_story, .inr (4, [.int p0_story_ram, .int p0_story_end, .ref hp0_story_original])), (hp1, .inr (0, [.ref hp1_bytes, .int p1_size, .int p1_overflowed])), (hp1_bytes, .inl (E.1, 1200, .inl p1_bytes)), (hp0_machine, .inr (1, [.ref hp0_machine_memory, .int p0_machine_size, .ref hp0_machine_stack, .int p0_machine_depth, .ref hp0_machine_starts, .ref hp0_machine_lengths, .int p0_machine_blocks])), (hp0_machine_memory, .inl (E.1, 512, .inl p0_machine_memory))] r (fun a => [(hp0, .inr (3, [.ref hp0_story, .ref hp0_machine, .ref hp0_others, .int o0, .int o1, .int p0_next, .int p0_sawHead, .int p0_sawMemory, .int p0_sawStack, .int p0_sawBlocks])), (hp0_story, .inr (4, [.int p0_story_ram, .int p0_story_end, .ref hp0_story_original])), (hp1, .inr (0, [.ref hp1_bytes, .int p1_size, .int p1_overflowed])), (hp1_bytes, .inl (E.1, 1200, .inl p1_bytes)), (hp0_machine, .inr (1, [.ref hp0_machine_memory, .int p0_machine_size, .ref hp0_machine_stack, .int p0_machine_depth, .ref hp0_machine_starts, .ref hp0_machine_lengths, .int p0_machine_blocks])), (hp0_machine_memory, .inl (E.1, 512, .inl o2))]) 0 0 := by
  refine MI_of (by decide) (Nat.le_of_ble_eq_true rfl) ?_
  intro p e s m args below meth c A Q hx hb hml hown hts hK hA hP hD hS ret ls hl
  replace hl : lv_has ls 9 [(0, .ref hp0), (1, .ref hp1), (2, .int i2), (3, .int i3)] := hl
  unfold f_X3_readMemory at h
  refine lv_aload_n hx hb dX3_readMemory_0 rfl (lv_at hl 0 rfl) ?_
  refine getF (D := G) (ci := 3) (v := .ref hp0_story) (C := RX3) (T := TX3) (N := 10) hx hb hts inG_X3 hown hK.1 hP 0 rfl rfl 0 (by decide) tf_X3_0 (hts _ wd_6692ab2b) rfl dX3_readMemory_1 ?_
  refine getF (D := G) (ci := 4) (v := .int p0_story_ram) (C := RX4) (T := TX4) (N := 3) hx hb hts inG_X4 hown hK.1 hP 1 rfl rfl 0 (by decide) tf_X4_0 (hts _ wd_59cb3714) rfl dX3_readMemory_4 ?_
  refine lv_istore (lv' := [(4, .int p0_story_ram), (0, .ref hp0), (1, .ref hp1), (2, .int i2), (3, .int i3)]) hx hb dX3_readMemory_7 hl (by decide) rfl (fun ls hl => ?_)
  refine lv_iconst (v := 1) hx hb dX3_readMemory_9 (by decide) ?_
  refine lv_istore (lv' := [(5, .int (1 : Int32)), (4, .int p0_story_ram), (0, .ref hp0), (1, .ref hp1), (2, .int i2), (3, .int i3)]) hx hb dX3_readMemory_10 hl (by decide) rfl (fun ls hl => ?_)
  refine lv_iload_n hx hb dX3_readMemory_12 rfl (lv_at hl 4 rfl) ?_
  refine lv_istore (lv' := [(6, .int i2), (5, .int (1 : Int32)), (4, .int p0_story_ram), (0, .ref hp0), (1, .ref hp1), (2, .int i2), (3, .int i3)]) hx hb dX3_readMemory_13 hl (by decide) rfl (fun ls hl => ?_)
  have hL15 : ∀ (K152 : (Nat → Int32) → Int32 → Int32 → Option (Int32 × Int32 × Int32 × (Nat → Int32))), (∀ (z1 : (Nat → Int32)) (z2 : Int32) (z3 : Int32), K152 z1 z2 z3 = some (r, o0, o1, o2) → ∀ (H : Heap) (locs : List Loc) (ls : Array Slot), va_P G vwCl [(hp0, .inr (3, [.ref hp0_story, .ref hp0_machine, .ref hp0_others, .int p0_fault, .int p0_place, .int p0_next, .int p0_sawHead, .int p0_sawMemory, .int p0_sawStack, .int p0_sawBlocks])), (hp0_story, .inr (4, [.int p0_story_ram, .int p0_story_end, .ref hp0_story_original])), (hp1, .inr (0, [.ref hp1_bytes, .int p1_size, .int p1_overflowed])), (hp1_bytes, .inl (E.1, 1200, .inl p1_bytes)), (hp0_machine, .inr (1, [.ref hp0_machine_memory, .int p0_machine_size, .ref hp0_machine_stack, .int p0_machine_depth, .ref hp0_machine_starts, .ref hp0_machine_lengths, .int p0_machine_blocks])), (hp0_machine_memory, .inl (E.1, 512, .inl z1))] H → va_D A [(hp0, .inr (3, [.ref hp0_story, .ref hp0_machine, .ref hp0_others, .int p0_fault, .int p0_place, .int p0_next, .int p0_sawHead, .int p0_sawMemory, .int p0_sawStack, .int p0_sawBlocks])), (hp0_story, .inr (4, [.int p0_story_ram, .int p0_story_end, .ref hp0_story_original])), (hp1, .inr (0, [.ref hp1_bytes, .int p1_size, .int p1_overflowed])), (hp1_bytes, .inl (E.1, 1200, .inl p1_bytes)), (hp0_machine, .inr (1, [.ref hp0_machine_memory, .int p0_machine_size, .ref hp0_machine_stack, .int p0_machine_depth, .ref hp0_machine_starts, .ref hp0_machine_lengths, .int p0_machine_blocks])), (hp0_machine_memory, .inl (E.1, 512, .inl z1))] → va_S A s.heap H locs → lv_has ls 9 [] → W p l e w_rm_X3_readMemory s m args below meth c H locs 0 0 Q (F0 m 152 ls [])) → ∀ (n : Nat) (z1 : (Nat → Int32)) (z2 : Int32) (z3 : Int32), L_X3_readMemory_15 i3 p1_bytes p0_machine_size K152 n z1 z2 z3 = some (r, o0, o1, o2) → ∀ (H : Heap) (locs : List Loc) (ls : Array Slot), va_P G vwCl [(hp0, .inr (3, [.ref hp0_story, .ref hp0_machine, .ref hp0_others, .int p0_fault, .int p0_place, .int p0_next, .int p0_sawHead, .int p0_sawMemory, .int p0_sawStack, .int p0_sawBlocks])), (hp0_story, .inr (4, [.int p0_story_ram, .int p0_story_end, .ref hp0_story_original])), (hp1, .inr (0, [.ref hp1_bytes, .int p1_size, .int p1_overflowed])), (hp1_bytes, .inl (E.1, 1200, .inl p1_bytes)), (hp0_machine, .inr (1, [.ref hp0_machine_memory, .int p0_machine_size, .ref hp0_machine_stack, .int p0_machine_depth, .ref hp0_machine_starts, .ref hp0_machine_lengths, .int p0_machine_blocks])), (hp0_machine_memory, .inl (E.1, 512, .inl z1))] H → va_D A [(hp0, .inr (3, [.ref hp0_story, .ref hp0_machine, .ref hp0_others, .int p0_fault, .int p0_place, .int p0_next, .int p0_sawHead, .int p0_sawMemory, .int p0_sawStack, .int p0_sawBlocks])), (hp0_story, .inr (4, [.int p0_story_ram, .int p0_story_end, .ref hp0_story_original])), (hp1, .inr (0, [.ref hp1_bytes, .int p1_size, .int p1_overflowed])), (hp1_bytes, .inl (E.1, 1200, .inl p1_bytes)), (hp0_machine, .inr (1, [.ref hp0_machine_memory, .int p0_machine_size, .ref hp0_machine_stack, .int p0_machine_depth, .ref hp0_machine_starts, .ref hp0_machine_lengths, .int p0_machine_blocks])), (hp0_machine_memory, .inl (E.1, 512, .inl z1))] → va_S A s.heap H locs → lv_has ls 9 [(0, .ref hp0), (1, .ref hp1), (3, .int i3), (4, .int z2), (6, .int z3)] → W p l e w_rm_X3_readMemory s m args below meth c H locs 0 0 Q (F0 m 15 ls []) := by
    intro K152 hK152 n
    induction n with
    | zero =>
      intro z1 z2 z3 h
      replace h : (none : Option (Int32 × Int32 × Int32 × (Nat → Int32))) = some (r, o0, o1, o2) := h
      cases h
    | succ n ih =>
      intro z1 z2 z3 h H locs ls hP hD hS hl
      replace h : B_X3_readMemory_15 i3 p1_bytes p0_machine_size (fun z1 z2 z3 => L_X3_readMemory_15 i3 p1_bytes p0_machine_size K152 n z1 z2 z3) K152 z1 z2 z3 = some (r, o0, o1, o2) := h
      obtain ⟨rec15, hrec15⟩ : ∃ f : (Nat → Int32) → Int32 → Int32 → Option (Int32 × Int32 × Int32 × (Nat → Int32)), f = (fun z1 z2 z3 => L_X3_readMemory_15 i3 p1_bytes p0_machine_size K152 n z1 z2 z3) := ⟨_, rfl⟩
      rw [← hrec15] at h
      unfold B_X3_readMemory_15 at h
      refine lv_iload hx hb dX3_readMemory_15 (lv_at hl 4 rfl) ?_
      refine lv_iload_n hx hb dX3_readMemory_17 rfl (lv_at hl 2 rfl) ?_
      refine lv_icmp_ge (tgt := 152) hx hb dX3_readMemory_18 (by decide) (fun c4 => ?_) (fun c4 => ?_)
      · replace h := if_t h c4
        exact hK152 z1 z2 z3 h _ _ _ hP hD hS (lv_sub hl [] rfl)
      · replace h := if_f h c4
        refine lv_aload_n hx hb dX3_readMemory_21 rfl (lv_at hl 1 rfl) ?_
        refine lv_iload hx hb dX3_readMemory_22 (lv_at hl 4 rfl) ?_
        obtain ⟨u5, hu5, h⟩ := bd_t h
        refine cVi (wr := [(hp0, .inr (3, [.ref hp0_story, .ref hp0_machine, .ref hp0_others, .int p0_fault, .int p0_place, .int p0_next, .int p0_sawHead, .int p0_sawMemory, .int p0_sawStack, .int p0_sawBlocks])), (hp0_story, .inr (4, [.int p0_story_ram, .int p0_story_end, .ref hp0_story_original])), (hp0_machine, .inr (1, [.ref hp0_machine_memory, .int p0_machine_size, .ref hp0_machine_stack, .int p0_machine_depth, .ref hp0_machine_starts, .ref hp0_machine_lengths, .int p0_machine_blocks])), (hp0_machine_memory, .inl (E.1, 512, .inl z1))]) (As := [.int z3]) (rest := []) ⟨hx, hb, hml, hown, hts⟩ (c_X0_byteAt l G E hp1 hp1_bytes p1_size p1_overflowed p1_bytes z3 u5 hu5) ok_X0_byteAt okv_X0_byteAt wd_bca33b46 ⟨Nat.le_of_ble_eq_true rfl, Nat.le_of_ble_eq_true rfl⟩ hK hP hD hS hA [2, 3] [0, 1, 4, 5] rfl rfl (by decide) (by decide) (by decide) (va_recv hK.1 hP (ci := 0) (q0 := 2) rfl rfl) rfl hl.1 rfl (Nat.le_of_ble_eq_true rfl) dX3_readMemory_24 ⟨Nat.le_of_ble_eq_true rfl, Nat.le_of_ble_eq_true rfl⟩ (fun H locs a6 hP hD hS => ?_)
        have hP : va_P G vwCl [(hp0, .inr (3, [.ref hp0_story, .ref hp0_machine, .ref hp0_others, .int p0_fault, .int p0_place, .int p0_next, .int p0_sawHead, .int p0_sawMemory, .int p0_sawStack, .int p0_sawBlocks])), (hp0_story, .inr (4, [.int p0_story_ram, .int p0_story_end, .ref hp0_story_original])), (hp0_machine, .inr (1, [.ref hp0_machine_memory, .int p0_machine_size, .ref hp0_machine_stack, .int p0_machine_depth, .ref hp0_machine_starts, .ref hp0_machine_lengths, .int p0_machine_blocks])), (hp0_machine_memory, .inl (E.1, 512, .inl z1)), (hp1, .inr (0, [.ref hp1_bytes, .int p1_size, .int p1_overflowed])), (hp1_bytes, .inl (E.1, 1200, .inl p1_bytes))] H := hP
        have hD : va_D A [(hp0, .inr (3, [.ref hp0_story, .ref hp0_machine, .ref hp0_others, .int p0_fault, .int p0_place, .int p0_next, .int p0_sawHead, .int p0_sawMemory, .int p0_sawStack, .int p0_sawBlocks])), (hp0_story, .inr (4, [.int p0_story_ram, .int p0_story_end, .ref hp0_story_original])), (hp0_machine, .inr (1, [.ref hp0_machine_memory, .int p0_machine_size, .ref hp0_machine_stack, .int p0_machine_depth, .ref hp0_machine_starts, .ref hp0_machine_lengths, .int p0_machine_blocks])), (hp0_machine_memory, .inl (E.1, 512, .inl z1)), (hp1, .inr (0, [.ref hp1_bytes, .int p1_size, .int p1_overflowed])), (hp1_bytes, .inl (E.1, 1200, .inl p1_bytes))] := hD
        refine lv_istore (lv' := [(7, .int u5), (0, .ref hp0), (1, .ref hp1), (3, .int i3), (4, .int z2), (6, .int z3)]) hx hb dX3_readMemory_27 hl (by decide) rfl (fun ls hl => ?_)
        refine lv_iload hx hb dX3_readMemory_29 (lv_at hl 0 rfl) ?_
        have hJ39 : ∀ (y8 : Int32), J_X3_readMemory_39 i3 p1_bytes p0_machine_size z1 z2 z3 rec15 u5 y8 = some (r, o0, o1, o2) → ∀ (H : Heap) (locs : List Loc) (ls : Array Slot), va_P G vwCl [(hp0, .inr (3, [.ref hp0_story, .ref hp0_machine, .ref hp0_others, .int p0_fault, .int p0_place, .int p0_next, .int p0_sawHead, .int p0_sawMemory, .int p0_sawStack, .int p0_sawBlocks])), (hp0_story, .inr (4, [.int p0_story_ram, .int p0_story_end, .ref hp0_story_original])), (hp0_machine, .inr (1, [.ref hp0_machine_memory, .int p0_machine_size, .ref hp0_machine_stack, .int p0_machine_depth, .ref hp0_machine_starts, .ref hp0_machine_lengths, .int p0_machine_blocks])), (hp0_machine_memory, .inl (E.1, 512, .inl z1)), (hp1, .inr (0, [.ref hp1_bytes, .int p1_size, .int p1_overflowed])), (hp1_bytes, .inl (E.1, 1200, .inl p1_bytes))] H → va_D A [(hp0, .inr (3, [.ref hp0_story, .ref hp0_machine, .ref hp0_others, .int p0_fault, .int p0_place, .int p0_next, .int p0_sawHead, .int p0_sawMemory, .int p0_sawStack, .int p0_sawBlocks])), (hp0_story, .inr (4, [.int p0_story_ram, .int p0_story_end, .ref hp0_story_original])), (hp0_machine, .inr (1, [.ref hp0_machine_memory, .int p0_machine_size, .ref hp0_machine_stack, .int p0_machine_depth, .ref hp0_machine_starts, .ref hp0_machine_lengths, .int p0_machine_blocks])), (hp0_machine_memory, .inl (E.1, 512, .inl z1)), (hp1, .inr (0, [.ref hp1_bytes, .int p1_size, .int p1_overflowed])), (hp1_bytes, .inl (E.1, 1200, .inl p1_bytes))] → va_S A s.heap H locs → lv_has ls 9 [(0, .ref hp0), (1, .ref hp1), (3, .int i3), (4, .int z2), (6, .int z3), (7, .int u5)] → W p l e w_rm_X3_readMemory s m args below meth c H locs 0 0 Q (F0 m 39 ls [.int y8]) := by
          intro y8 h H locs ls hP hD hS hl
          unfold J_X3_readMemory_39 at h
          refine lv_istore (lv' := [(5, .int y8), (0, .ref hp0), (1, .ref hp1), (3, .int i3), (4, .int z2), (6, .int z3), (7, .int u5)]) hx hb dX3_readMemory_39 hl (by decide) rfl (fun ls hl => ?_)
          refine lv_iload hx hb dX3_readMemory_41 (lv_at hl 5 rfl) ?_
          refine lv_iload hx hb dX3_readMemory_43 (lv_at hl 0 rfl) ?_
          refine lv_iadd hx hb dX3_readMemory_45 ?_
          refine lv_iload_n hx hb dX3_readMemory_46 rfl (lv_at hl 3 rfl) ?_
          refine lv_icmp_le (tgt := 59) hx hb dX3_readMemory_47 (by decide) (fun c9 => ?_) (fun c9 => ?_)
          · replace h := if_t h c9
            refine lv_iload hx hb dX3_readMemory_59 (lv_at hl 6 rfl) ?_
            have hJ78 : ∀ (y11 : Int32), J_X3_readMemory_78 p0_machine_size z1 z2 z3 rec15 u5 y8 y11 = some (r, o0, o1, o2) → ∀ (H : Heap) (locs : List Loc) (ls : Array Slot), va_P G vwCl [(hp0, .inr (3, [.ref hp0_story, .ref hp0_machine, .ref hp0_others, .int p0_fault, .int p0_place, .int p0_next, .int p0_sawHead, .int p0_sawMemory, .int p0_sawStack, .int p0_sawBlocks])), (hp0_story, .inr (4, [.int p0_story_ram, .int p0_story_end, .ref hp0_story_original])), (hp0_machine, .inr (1, [.ref hp0_machine_memory, .int p0_machine_size, .ref hp0_machine_stack, .int p0_machine_depth, .ref hp0_machine_starts, .ref hp0_machine_lengths, .int p0_machine_blocks])), (hp0_machine_memory, .inl (E.1, 512, .inl z1)), (hp1, .inr (0, [.ref hp1_bytes, .int p1_size, .int p1_overflowed])), (hp1_bytes, .inl (E.1, 1200, .inl p1_bytes))] H → va_D A [(hp0, .inr (3, [.ref hp0_story, .ref hp0_machine, .ref hp0_others, .int p0_fault, .int p0_place, .int p0_next, .int p0_sawHead, .int p0_sawMemory, .int p0_sawStack, .int p0_sawBlocks])), (hp0_story, .inr (4, [.int p0_story_ram, .int p0_story_end, .ref hp0_story_original])), (hp0_machine, .inr (1, [.ref hp0_machine_memory, .int p0_machine_size, .ref hp0_machine_stack, .int p0_machine_depth, .ref hp0_machine_starts, .ref hp0_machine_lengths, .int p0_machine_blocks])), (hp0_machine_memory, .inl (E.1, 512, .inl z1)), (hp1, .inr (0, [.ref hp1_bytes, .int p1_size, .int p1_overflowed])), (hp1_bytes, .inl (E.1, 1200, .inl p1_bytes))] → va_S A s.heap H locs → lv_has ls 9 [(0, .ref hp0), (1, .ref hp1), (3, .int i3), (4, .int z2), (5, .int y8), (6, .int z3), (7, .int u5)] → W p l e w_rm_X3_readMemory s m args below meth c H locs 0 0 Q (F0 m 78 ls [.int y11]) := by
              intro y11 h H locs ls hP hD hS hl
              unfold J_X3_readMemory_78 at h
              refine lv_istore (lv' := [(8, .int y11), (0, .ref hp0), (1, .ref hp1), (3, .int i3), (4, .int z2), (5, .int y8), (6, .int z3), (7, .int u5)]) hx hb dX3_readMemory_78 hl (by decide) rfl (fun ls hl => ?_)
              refine lv_iload hx hb dX3_readMemory_80 (lv_at hl 4 rfl) ?_
              have hJ111 : ∀ (_ : Unit), J_X3_readMemory_111 z1 z3 = some (r, o0, o1, o2) → ∀ (H : Heap) (locs : List Loc) (ls : Array Slot), va_P G vwCl [(hp0, .inr (3, [.ref hp0_story, .ref hp0_machine, .ref hp0_others, .int p0_fault, .int p0_place, .int p0_next, .int p0_sawHead, .int p0_sawMemory, .int p0_sawStack, .int p0_sawBlocks])), (hp0_story, .inr (4, [.int p0_story_ram, .int p0_story_end, .ref hp0_story_original])), (hp0_machine, .inr (1, [.ref hp0_machine_memory, .int p0_machine_size, .ref hp0_machine_stack, .int p0_machine_depth, .ref hp0_machine_starts, .ref hp0_machine_lengths, .int p0_machine_blocks])), (hp0_machine_memory, .inl (E.1, 512, .inl z1)), (hp1, .inr (0, [.ref hp1_bytes, .int p1_size, .int p1_overflowed])), (hp1_bytes, .inl (E.1, 1200, .inl p1_bytes))] H → va_D A [(hp0, .inr (3, [.ref hp0_story, .ref hp0_machine, .ref hp0_others, .int p0_fault, .int p0_place, .int p0_next, .int p0_sawHead, .int p0_sawMemory, .int p0_sawStack, .int p0_sawBlocks])), (hp0_story, .inr (4, [.int p0_story_ram, .int p0_story_end, .ref hp0_story_original])), (hp0_machine, .inr (1, [.ref hp0_machine_memory, .int p0_machine_size, .ref hp0_machine_stack, .int p0_machine_depth, .ref hp0_machine_starts, .ref hp0_machine_lengths, .int p0_machine_blocks])), (hp0_machine_memory, .inl (E.1, 512, .inl z1)), (hp1, .inr (0, [.ref hp1_bytes, .int p1_size, .int p1_overflowed])), (hp1_bytes, .inl (E.1, 1200, .inl p1_bytes))] → va_S A s.heap H locs → lv_has ls 9 [(0, .ref hp0), (6, .int z3)] → W p l e w_rm_X3_readMemory s m args below meth c H locs 0 0 Q (F0 m 111 ls []) := by
                intro _ h H locs ls hP hD hS hl
                unfold J_X3_readMemory_111 at h
                refine lv_aload_n hx hb dX3_readMemory_111 rfl (lv_at hl 0 rfl) ?_
                refine lv_bipush (v := 6) hx hb dX3_readMemory_112 (by decide) ?_
                refine lv_iload hx hb dX3_readMemory_114 (lv_at hl 1 rfl) ?_
                obtain ⟨u13, hu13, h⟩ := bd_t h
                refine cVi (wr := [(hp0_story, .inr (4, [.int p0_story_ram, .int p0_story_end, .ref hp0_story_original])), (hp0_machine, .inr (1, [.ref hp0_machine_memory, .int p0_machine_size, .ref hp0_machine_stack, .int p0_machine_depth, .ref hp0_machine_starts, .ref hp0_machine_lengths, .int p0_machine_blocks])), (hp0_machine_memory, .inl (E.1, 512, .inl z1)), (hp1, .inr (0, [.ref hp1_bytes, .int p1_size, .int p1_overflowed])), (hp1_bytes, .inl (E.1, 1200, .inl p1_bytes))]) (As := [.int (6 : Int32), .int z3]) (rest := []) ⟨hx, hb, hml, hown, hts⟩ (c_X3_fail l G E hp0 hp0_story hp0_machine hp0_others p0_fault p0_place p0_next p0_sawHead p0_sawMemory p0_sawStack p0_sawBlocks (6 : Int32) z3 u13.1 u13.2.1 u13.2.2 hu13) ok_X3_fail okv_X3_fail wd_c4b21be1 ⟨Nat.le_of_ble_eq_true rfl, Nat.le_of_ble_eq_true rfl⟩ hK hP hD hS hA [0] [1, 2, 3, 4, 5] rfl rfl (by decide) (by decide) (by decide) (va_recv hK.1 hP (ci := 3) (q0 := 0) rfl rfl) rfl hl.1 rfl (Nat.le_of_ble_eq_true rfl) dX3_readMemory_116 ⟨Nat.le_of_ble_eq_true rfl, Nat.le_of_ble_eq_true rfl⟩ (fun H locs a14 hP hD hS => ?_)
                have hP : va_P G vwCl [(hp0_story, .inr (4, [.int p0_story_ram, .int p0_story_end, .ref hp0_story_original])), (hp0_machine, .inr (1, [.ref hp0_machine_memory, .int p0_machine_size, .ref hp0_machine_stack, .int p0_machine_depth, .ref hp0_machine_starts, .ref hp0_machine_lengths, .int p0_machine_blocks])), (hp0_machine_memory, .inl (E.1, 512, .inl z1)), (hp1, .inr (0, [.ref hp1_bytes, .int p1_size, .int p1_overflowed])), (hp1_bytes, .inl (E.1, 1200, .inl p1_bytes)), (hp0, .inr (3, [.ref hp0_story, .ref hp0_machine, .ref hp0_others, .int u13.2.1, .int u13.2.2, .int p0_next, .int p0_sawHead, .int p0_sawMemory, .int p0_sawStack, .int p0_sawBlocks]))] H := hP
                have hD : va_D A [(hp0_story, .inr (4, [.int p0_story_ram, .int p0_story_end, .ref hp0_story_original])), (hp0_machine, .inr (1, [.ref hp0_machine_memory, .int p0_machine_size, .ref hp0_machine_stack, .int p0_machine_depth, .ref hp0_machine_starts, .ref hp0_machine_lengths, .int p0_machine_blocks])), (hp0_machine_memory, .inl (E.1, 512, .inl z1)), (hp1, .inr (0, [.ref hp1_bytes, .int p1_size, .int p1_overflowed])), (hp1_bytes, .inl (E.1, 1200, .inl p1_bytes)), (hp0, .inr (3, [.ref hp0_story, .ref hp0_machine, .ref hp0_others, .int u13.2.1, .int u13.2.2, .int p0_next, .int p0_sawHead, .int p0_sawMemory, .int p0_sawStack, .int p0_sawBlocks]))] := hD
                obtain ⟨g15, h⟩ := gbo_t h
                cases h
                exact ret _ _ _ _ _ (fun _ => 0) rfl (bo_nar g15) (hP.sub [5, 0, 3, 4, 1, 2] rfl) (hD.sub [5, 0, 3, 4, 1, 2] (by decide) rfl) hS dX3_readMemory_119
              refine lv_if_lt (tgt := 111) hx hb dX3_readMemory_82 (by decide) (fun c12 => ?_) (fun c12 => ?_)
              · replace h := if_t h c12
                exact hJ111 () h _ _ _ hP hD hS (lv_sub hl [1, 6] rfl)
              · replace h := if_f h c12
                refine lv_iload hx hb dX3_readMemory_85 (lv_at hl 4 rfl) ?_
                refine lv_iload hx hb dX3_readMemory_87 (lv_at hl 0 rfl) ?_
                refine lv_iadd hx hb dX3_readMemory_89 ?_
                refine lv_aload_n hx hb dX3_readMemory_90 rfl (lv_at hl 1 rfl) ?_
                refine getF (D := G) (ci := 3) (v := .ref hp0_machine) (C := RX3) (T := TX3) (N := 10) hx hb hts inG_X3 hown hK.1 hP 0 rfl rfl 1 (by decide) tf_X3_1 (hts _ wd_4f086646) rfl dX3_readMemory_91 ?_
                refine getF (D := G) (ci := 1) (v := .int p0_machine_size) (C := RX1) (T := TX1) (N := 7) hx hb hts inG_X1 hown hK.1 hP 2 rfl rfl 1 (by decide) tf_X1_1 (hts _ wd_49726459) rfl dX3_readMemory_94 ?_
                refine lv_icmp_gt (tgt := 111) hx hb dX3_readMemory_97 (by decide) (fun c16 => ?_) (fun c16 => ?_)
                · replace h := if_t h c16
                  exact hJ111 () h _ _ _ hP hD hS (lv_sub hl [1, 6] rfl)
                · replace h := if_f h c16
                  refine lv_iload hx hb dX3_readMemory_100 (lv_at hl 4 rfl) ?_
                  refine lv_iload hx hb dX3_readMemory_102 (lv_at hl 0 rfl) ?_
                  refine lv_iadd hx hb dX3_readMemory_104 ?_
                  refine lv_sipush (v := 512) hx hb dX3_readMemory_105 (by decide) ?_
                  refine lv_icmp_le (tgt := 120) hx hb dX3_readMemory_108 (by decide) (fun c17 => ?_) (fun c17 => ?_)
                  · replace h := if_t h c17
                    refine lv_aload_n hx hb dX3_readMemory_120 rfl (lv_at hl 1 rfl) ?_
                    refine getF (D := G) (ci := 3) (v := .ref hp0_machine) (C := RX3) (T := TX3) (N := 10) hx hb hts inG_X3 hown hK.1 hP 0 rfl rfl 1 (by decide) tf_X3_1 (hts _ wd_4f086646) rfl dX3_readMemory_121 ?_
                    refine getF (D := G) (ci := 1) (v := .ref hp0_machine_memory) (C := RX1) (T := TX1) (N := 7) hx hb hts inG_X1 hown hK.1 hP 2 rfl rfl 0 (by decide) tf_X1_0 (hts _ wd_445f930b) rfl dX3_readMemory_124 ?_
                    refine lv_iload hx hb dX3_readMemory_127 (lv_at hl 4 rfl) ?_
                    refine lv_dup2_11 hx hb dX3_readMemory_129 rfl rfl ?_
                    obtain ⟨g18, h⟩ := gin_t h
                    refine va_iald hx hb hK.1 hP 3 0 rfl rfl g18 dX3_readMemory_130 ?_
                    refine lv_iload hx hb dX3_readMemory_131 (lv_at hl 7 rfl) ?_
                    refine lv_ixor hx hb dX3_readMemory_133 ?_
                    refine lv_topi (fun x19 ex19 => ?_)
                    replace h := bn_t h ex19
                    obtain ⟨g20, h⟩ := gin_t h
                    refine va_iast hx hb hK.1 hP hD hS 3 0 rfl rfl g20 dX3_readMemory_134 (fun H locs hP hD hS => ?_)
                    have hP : va_P G vwCl [(hp0, .inr (3, [.ref hp0_story, .ref hp0_machine, .ref hp0_others, .int p0_fault, .int p0_place, .int p0_next, .int p0_sawHead, .int p0_sawMemory, .int p0_sawStack, .int p0_sawBlocks])), (hp0_story, .inr (4, [.int p0_story_ram, .int p0_story_end, .ref hp0_story_original])), (hp0_machine, .inr (1, [.ref hp0_machine_memory, .int p0_machine_size, .ref hp0_machine_stack, .int p0_machine_depth, .ref hp0_machine_starts, .ref hp0_machine_lengths, .int p0_machine_blocks])), (hp0_machine_memory, .inl (E.1, 512, .inl (upd z1 z2.toNatClampNeg x19))), (hp1, .inr (0, [.ref hp1_bytes, .int p1_size, .int p1_overflowed])), (hp1_bytes, .inl (E.1, 1200, .inl p1_bytes))] H := hP
                    have hD : va_D A [(hp0, .inr (3, [.ref hp0_story, .ref hp0_machine, .ref hp0_others, .int p0_fault, .int p0_place, .int p0_next, .int p0_sawHead, .int p0_sawMemory, .int p0_sawStack, .int p0_sawBlocks])), (hp0_story, .inr (4, [.int p0_story_ram, .int p0_story_end, .ref hp0_story_original])), (hp0_machine, .inr (1, [.ref hp0_machine_memory, .int p0_machine_size, .ref hp0_machine_stack, .int p0_machine_depth, .ref hp0_machine_starts, .ref hp0_machine_lengths, .int p0_machine_blocks])), (hp0_machine_memory, .inl (E.1, 512, .inl (upd z1 z2.toNatClampNeg x19))), (hp1, .inr (0, [.ref hp1_bytes, .int p1_size, .int p1_overflowed])), (hp1_bytes, .inl (E.1, 1200, .inl p1_bytes))] := hD
                    obtain ⟨m21, em21⟩ : ∃ y : Nat → Int32, y = upd z1 z2.toNatClampNeg x19 := ⟨_, rfl⟩
                    replace h := bn_t h em21
                    rw [← em21] at hP hD
                    refine lv_iload hx hb dX3_readMemory_135 (lv_at hl 4 rfl) ?_
                    refine lv_iload hx hb dX3_readMemory_137 (lv_at hl 0 rfl) ?_
                    refine lv_iadd hx hb dX3_readMemory_139 ?_
                    refine lv_topi (fun x22 ex22 => ?_)
                    replace h := bn_t h ex22
                    refine lv_istore (lv' := [(4, .int x22), (8, .int y11), (0, .ref hp0), (1, .ref hp1), (3, .int i3), (5, .int y8), (6, .int z3), (7, .int u5)]) hx hb dX3_readMemory_140 hl (by decide) rfl (fun ls hl => ?_)
                    refine lv_iload hx hb dX3_readMemory_142 (lv_at hl 6 rfl) ?_
                    refine lv_iload hx hb dX3_readMemory_144 (lv_at hl 5 rfl) ?_
                    refine lv_iadd hx hb dX3_readMemory_146 ?_
                    refine lv_topi (fun x23 ex23 => ?_)
                    replace h := bn_t h ex23
                    refine lv_istore (lv' := [(6, .int x23), (4, .int x22), (8, .int y11), (0, .ref hp0), (1, .ref hp1), (3, .int i3), (5, .int y8), (7, .int u5)]) hx hb dX3_readMemory_147 hl (by decide) rfl (fun ls hl => ?_)
                    refine lv_goto (tgt := 15) hx hb dX3_readMemory_149 (by decide) ?_
                    exact ih m21 x22 x23 (by rw [hrec15] at h; exact h) _ _ _ (hP.sub [0, 1, 4, 5, 2, 3] rfl) (hD.sub [0, 1, 4, 5, 2, 3] (by decide) rfl) hS (lv_sub hl [3, 4, 5, 1, 0] rfl)
                  · replace h := if_f h c17
                    exact hJ111 () h _ _ _ hP hD hS (lv_sub hl [1, 6] rfl)
            refine lv_if_ne (tgt := 77) hx hb dX3_readMemory_61 (by decide) (fun c10 => ?_) (fun c10 => ?_)
            · replace h := if_f h c10
              refine lv_iconst (v := 1) hx hb dX3_readMemory_77 (by decide) ?_
              exact hJ78 (1 : Int32) h _ _ _ hP hD hS (lv_sub hl [1, 2, 3, 4, 0, 5, 6] rfl)
            · replace h := if_t h c10
              refine lv_aload_n hx hb dX3_readMemory_64 rfl (lv_at hl 2 rfl) ?_
              refine lv_iload hx hb dX3_readMemory_65 (lv_at hl 5 rfl) ?_
              refine lv_iconst (v := 1) hx hb dX3_readMemory_67 (by decide) ?_
              refine lv_iadd hx hb dX3_readMemory_68 ?_
              obtain ⟨u24, hu24, h⟩ := bd_t h
              refine cVi (wr := [(hp0, .inr (3, [.ref hp0_story, .ref hp0_machine, .ref hp0_others, .int p0_fault, .int p0_place, .int p0_next, .int p0_sawHead, .int p0_sawMemory, .int p0_sawStack, .int p0_sawBlocks])), (hp0_story, .inr (4, [.int p0_story_ram, .int p0_story_end, .ref hp0_story_original])), (hp0_machine, .inr (1, [.ref hp0_machine_memory, .int p0_machine_size, .ref hp0_machine_stack, .int p0_machine_depth, .ref hp0_machine_starts, .ref hp0_machine_lengths, .int p0_machine_blocks])), (hp0_machine_memory, .inl (E.1, 512, .inl z1))]) (As := [.int (z3 + (1 : Int32))]) (rest := []) ⟨hx, hb, hml, hown, hts⟩ (c_X0_byteAt l G E hp1 hp1_bytes p1_size p1_overflowed p1_bytes (z3 + (1 : Int32)) u24 hu24) ok_X0_byteAt okv_X0_byteAt wd_bca33b46 ⟨Nat.le_of_ble_eq_true rfl, Nat.le_of_ble_eq_true rfl⟩ hK hP hD hS hA [4, 5] [0, 1, 2, 3] rfl rfl (by decide) (by decide) (by decide) (va_recv hK.1 hP (ci := 0) (q0 := 4) rfl rfl) rfl hl.1 rfl (Nat.le_of_ble_eq_true rfl) dX3_readMemory_69 ⟨Nat.le_of_ble_eq_true rfl, Nat.le_of_ble_eq_true rfl⟩ (fun H locs a25 hP hD hS => ?_)
              have hP : va_P G vwCl [(hp0, .inr (3, [.ref hp0_story, .ref hp0_machine, .ref hp0_others, .int p0_fault, .int p0_place, .int p0_next, .int p0_sawHead, .int p0_sawMemory, .int p0_sawStack, .int p0_sawBlocks])), (hp0_story, .inr (4, [.int p0_story_ram, .int p0_story_end, .ref hp0_story_original])), (hp0_machine, .inr (1, [.ref hp0_machine_memory, .int p0_machine_size, .ref hp0_machine_stack, .int p0_machine_depth, .ref hp0_machine_starts, .ref hp0_machine_lengths, .int p0_machine_blocks])), (hp0_machine_memory, .inl (E.1, 512, .inl z1)), (hp1, .inr (0, [.ref hp1_bytes, .int p1_size, .int p1_overflowed])), (hp1_bytes, .inl (E.1, 1200, .inl p1_bytes))] H := hP
              have hD : va_D A [(hp0, .inr (3, [.ref hp0_story, .ref hp0_machine, .ref hp0_others, .int p0_fault, .int p0_place, .int p0_next, .int p0_sawHead, .int p0_sawMemory, .int p0_sawStack, .int p0_sawBlocks])), (hp0_story, .inr (4, [.int p0_story_ram, .int p0_story_end, .ref hp0_story_original])), (hp0_machine, .inr (1, [.ref hp0_machine_memory, .int p0_machine_size, .ref hp0_machine_stack, .int p0_machine_depth, .ref hp0_machine_starts, .ref hp0_machine_lengths, .int p0_machine_blocks])), (hp0_machine_memory, .inl (E.1, 512, .inl z1)), (hp1, .inr (0, [.ref hp1_bytes, .int p1_size, .int p1_overflowed])), (hp1_bytes, .inl (E.1, 1200, .inl p1_bytes))] := hD
              refine lv_iconst (v := 1) hx hb dX3_readMemory_72 (by decide) ?_
              refine lv_iadd hx hb dX3_readMemory_73 ?_
              refine lv_goto (tgt := 78) hx hb dX3_readMemory_74 (by decide) ?_
              exact hJ78 (u24 + (1 : Int32)) h _ _ _ hP hD hS (lv_sub hl [1, 2, 3, 4, 0, 5, 6] rfl)
          · replace h := if_f h c9
            refine lv_aload_n hx hb dX3_readMemory_50 rfl (lv_at hl 1 rfl) ?_
            refine lv_bipush (v := 6) hx hb dX3_readMemory_51 (by decide) ?_
            refine lv_iload hx hb dX3_readMemory_53 (lv_at hl 5 rfl) ?_
            obtain ⟨u26, hu26, h⟩ := bd_t h
            refine cVi (wr := [(hp0_story, .inr (4, [.int p0_story_ram, .int p0_story_end, .ref hp0_story_original])), (hp0_machine, .inr (1, [.ref hp0_machine_memory, .int p0_machine_size, .ref hp0_machine_stack, .int p0_machine_depth, .ref hp0_machine_starts, .ref hp0_machine_lengths, .int p0_machine_blocks])), (hp0_machine_memory, .inl (E.1, 512, .inl z1)), (hp1, .inr (0, [.ref hp1_bytes, .int p1_size, .int p1_overflowed])), (hp1_bytes, .inl (E.1, 1200, .inl p1_bytes))]) (As := [.int (6 : Int32), .int z3]) (rest := []) ⟨hx, hb, hml, hown, hts⟩ (c_X3_fail l G E hp0 hp0_story hp0_machine hp0_others p0_fault p0_place p0_next p0_sawHead p0_sawMemory p0_sawStack p0_sawBlocks (6 : Int32) z3 u26.1 u26.2.1 u26.2.2 hu26) ok_X3_fail okv_X3_fail wd_c4b21be1 ⟨Nat.le_of_ble_eq_true rfl, Nat.le_of_ble_eq_true rfl⟩ hK hP hD hS hA [0] [1, 2, 3, 4, 5] rfl rfl (by decide) (by decide) (by decide) (va_recv hK.1 hP (ci := 3) (q0 := 0) rfl rfl) rfl hl.1 rfl (Nat.le_of_ble_eq_true rfl) dX3_readMemory_55 ⟨Nat.le_of_ble_eq_true rfl, Nat.le_of_ble_eq_true rfl⟩ (fun H locs a27 hP hD hS => ?_)
            have hP : va_P G vwCl [(hp0_story, .inr (4, [.int p0_story_ram, .int p0_story_end, .ref hp0_story_original])), (hp0_machine, .inr (1, [.ref hp0_machine_memory, .int p0_machine_size, .ref hp0_machine_stack, .int p0_machine_depth, .ref hp0_machine_starts, .ref hp0_machine_lengths, .int p0_machine_blocks])), (hp0_machine_memory, .inl (E.1, 512, .inl z1)), (hp1, .inr (0, [.ref hp1_bytes, .int p1_size, .int p1_overflowed])), (hp1_bytes, .inl (E.1, 1200, .inl p1_bytes)), (hp0, .inr (3, [.ref hp0_story, .ref hp0_machine, .ref hp0_others, .int u26.2.1, .int u26.2.2, .int p0_next, .int p0_sawHead, .int p0_sawMemory, .int p0_sawStack, .int p0_sawBlocks]))] H := hP
            have hD : va_D A [(hp0_story, .inr (4, [.int p0_story_ram, .int p0_story_end, .ref hp0_story_original])), (hp0_machine, .inr (1, [.ref hp0_machine_memory, .int p0_machine_size, .ref hp0_machine_stack, .int p0_machine_depth, .ref hp0_machine_starts, .ref hp0_machine_lengths, .int p0_machine_blocks])), (hp0_machine_memory, .inl (E.1, 512, .inl z1)), (hp1, .inr (0, [.ref hp1_bytes, .int p1_size, .int p1_overflowed])), (hp1_bytes, .inl (E.1, 1200, .inl p1_bytes)), (hp0, .inr (3, [.ref hp0_story, .ref hp0_machine, .ref hp0_others, .int u26.2.1, .int u26.2.2, .int p0_next, .int p0_sawHead, .int p0_sawMemory, .int p0_sawStack, .int p0_sawBlocks]))] := hD
            obtain ⟨g28, h⟩ := gbo_t h
            cases h
            exact ret _ _ _ _ _ (fun _ => 0) rfl (bo_nar g28) (hP.sub [5, 0, 3, 4, 1, 2] rfl) (hD.sub [5, 0, 3, 4, 1, 2] (by decide) rfl) hS dX3_readMemory_58
        refine lv_if_ne (tgt := 38) hx hb dX3_readMemory_31 (by decide) (fun c7 => ?_) (fun c7 => ?_)
        · replace h := if_f h c7
          refine lv_iconst (v := 1) hx hb dX3_readMemory_38 (by decide) ?_
          exact hJ39 (1 : Int32) h _ _ _ hP hD hS (lv_sub hl [1, 2, 3, 4, 5, 0] rfl)
        · replace h := if_t h c7
          refine lv_iconst (v := 2) hx hb dX3_readMemory_34 (by decide) ?_
          refine lv_goto (tgt := 39) hx hb dX3_readMemory_35 (by decide) ?_
          exact hJ39 (2 : Int32) h _ _ _ hP hD hS (lv_sub hl [1, 2, 3, 4, 5, 0] rfl)
  refine hL15 _ (fun z1 z2 z3 h H locs ls hP hD hS hl => ?_) N p0_machine_memory p0_story_ram i2 h _ _ _ hP hD hS (lv_sub hl [3, 4, 6, 2, 0] rfl)
  try dsimp only at h
  refine lv_iconst (v := 1) hx hb dX3_readMemory_152 (by decide) ?_
  cases h
  exact ret _ _ _ _ _ (fun _ => 0) rfl rfl hP hD hS dX3_readMemory_153
def B_X3_readStack_3 (i2 : Int32) (i3 : Int32) (p1_bytes : (Nat → Int32)) (rec3 : (Nat → Int32) → Int32 → Int32 → Option (Int32 × (Nat → Int32) × Int32)) (K33 : (Nat → Int32) → Int32 → Int32 → Option (Int32 × (Nat → Int32) × Int32)) (z1 : (Nat → Int32)) (z2 : Int32) (z3 : Int32) : Option (Int32 × (Nat → Int32) × Int32) :=
  if i3 ≤ z3 then (
  K33 z1 z2 z3)
  else
  bd (f_X0_fourAt (i2 + ((4 : Int32) * z3)) p1_bytes) fun u5 =>
  bd (f_X1_addInt u5 z2 z1) fun u7 =>
  bn (z3 + 1) fun x9 =>
  rec3 u7.2.1 u7.2.2 x9
def L_X3_readStack_3 (i2 : Int32) (i3 : Int32) (p1_bytes : (Nat → Int32)) (K33 : (Nat → Int32) → Int32 → Int32 → Option (Int32 × (Nat → Int32) × Int32)) : Nat → (Nat → Int32) → Int32 → Int32 → Option (Int32 × (Nat → Int32) × Int32)
    | 0, _, _, _ => none
    | n + 1, z1, z2, z3 => B_X3_readStack_3 i2 i3 p1_bytes (fun z1 z2 z3 => L_X3_readStack_3 i2 i3 p1_bytes K33 n z1 z2 z3) K33 z1 z2 z3
def f_X3_readStack (N : Nat) (i2 : Int32) (i3 : Int32) (p1_bytes : (Nat → Int32)) (p0_machine_depth : Int32) (p0_machine_stack : (Nat → Int32)) : Option (Int32 × (Nat → Int32) × Int32) :=
  L_X3_readStack_3 i2 i3 p1_bytes 
  (fun z1 z2 z3 =>
  some ((1 : Int32), z1, z2)) N p0_machine_stack p0_machine_depth (0 : Int32)
abbrev w_rm_X3_readStack : Room := { frames := 1, cells := 0, slots := 0, locals := 21 }
set_option maxHeartbeats 4000000 in
set_option maxRecDepth 100000 in
theorem c_X3_readStack (l : Launch) (G : va_G) (E : ClassId × ClassId × ClassId) (N : Nat) (hp0 : Nat) (hp0_story : Nat) (hp0_machine : Nat) (hp0_others : Nat) (p0_fault : Int32) (p0_place : Int32) (p0_next : Int32) (p0_sawHead : Int32) (p0_sawMemory : Int32) (p0_sawStack : Int32) (p0_sawBlocks : Int32) (hp1 : Nat) (hp1_bytes : Nat) (p1_size : Int32) (p1_overflowed : Int32) (p1_bytes : (Nat → Int32)) (hp0_machine_memory : Nat) (p0_machine_size : Int32) (hp0_machine_stack : Nat) (p0_machine_depth : Int32) (hp0_machine_starts : Nat) (hp0_machine_lengths : Nat) (p0_machine_blocks : Int32) (p0_machine_stack : (Nat → Int32)) (i2 : Int32) (i3 : Int32) (r : Int32) (o0 : (Nat → Int32)) (o1 : Int32) (h : f_X3_readStack N i2 i3 p1_bytes p0_machine_depth p0_machine_stack = some (r, o0, o1)) : MI l G E yX3_readStack cX3_readStack 5 .boolean w_rm_X3_readStack [.ref hp0, .ref hp1, .int i2, .int i3] [(hp0, .inr (3, [.ref hp0_story, .ref hp0_machine, .ref hp0_others, .int p0_fault, .int p0_place, .int p0_next, .int p0_sawHead, .int p0_sawMemory, .int p0_sawStack, .int p0_sawBlocks])), (hp1, .inr (0, [.ref hp1_bytes, .int p1_size, .int p1_overflowed])), (hp1_bytes, .inl (E.1, 1200, .inl p1_bytes)), (hp0_machine, .inr (1, [.ref hp0_machine_memory, .int p0_machine_size, .ref hp0_machine_stack, .int p0_machine_depth, .ref hp0_machine_starts, .ref hp0_machine_lengths, .int p0_machine_blocks])), (hp0_machine_stack, .inl (E.1, 40, .inl p0_machine_stack))] r (fun a => [(hp0, .inr (3, [.ref hp0_story, .ref hp0_machine, .ref hp0_others, .int p0_fault, .int p0_place, .int p0_next, .int p0_sawHead, .int p0_sawMemory, .int p0_sawStack, .int p0_sawBlocks])), (hp1, .inr (0, [.ref hp1_bytes, .int p1_size, .int p1_overflowed])), (hp1_bytes, .inl (E.1, 1200, .inl p1_bytes)), (hp0_machine, .inr (1, [.ref hp0_machine_memory, .int p0_machine_size, .ref hp0_machine_stack, .int o1, .ref hp0_machine_starts, .ref hp0_machine_lengths, .int p0_machine_blocks])), (hp0_machine_stack, .inl (E.1, 40, .inl o0))]) 0 0 := by
  refine MI_of (by decide) (Nat.le_of_ble_eq_true rfl) ?_
  intro p e s m args below meth c A Q hx hb hml hown hts hK hA hP hD hS ret ls hl
  replace hl : lv_has ls 5 [(0, .ref hp0), (1, .ref hp1), (2, .int i2), (3, .int i3)] := hl
  unfold f_X3_readStack at h
  refine lv_iconst (v := 0) hx hb dX3_readStack_0 (by decide) ?_
  refine lv_istore (lv' := [(4, .int (0 : Int32)), (0, .ref hp0), (1, .ref hp1), (2, .int i2), (3, .int i3)]) hx hb dX3_readStack_1 hl (by decide) rfl (fun ls hl => ?_)
  have hL3 : ∀ (K33 : (Nat → Int32) → Int32 → Int32 → Option (Int32 × (Nat → Int32) × Int32)), (∀ (z1 : (Nat → Int32)) (z2 : Int32) (z3 : Int32), K33 z1 z2 z3 = some (r, o0, o1) → ∀ (H : Heap) (locs : List Loc) (ls : Array Slot), va_P G vwCl [(hp0, .inr (3, [.ref hp0_story, .ref hp0_machine, .ref hp0_others, .int p0_fault, .int p0_place, .int p0_next, .int p0_sawHead, .int p0_sawMemory, .int p0_sawStack, .int p0_sawBlocks])), (hp1, .inr (0, [.ref hp1_bytes, .int p1_size, .int p1_overflowed])), (hp1_bytes, .inl (E.1, 1200, .inl p1_bytes)), (hp0_machine, .inr (1, [.ref hp0_machine_memory, .int p0_machine_size, .ref hp0_machine_stack, .int z2, .ref hp0_machine_starts, .ref hp0_machine_lengths, .int p0_machine_blocks])), (hp0_machine_stack, .inl (E.1, 40, .inl z1))] H → va_D A [(hp0, .inr (3, [.ref hp0_story, .ref hp0_machine, .ref hp0_others, .int p0_fault, .int p0_place, .int p0_next, .int p0_sawHead, .int p0_sawMemory, .int p0_sawStack, .int p0_sawBlocks])), (hp1, .inr (0, [.ref hp1_bytes, .int p1_size, .int p1_overflowed])), (hp1_bytes, .inl (E.1, 1200, .inl p1_bytes)), (hp0_machine, .inr (1, [.ref hp0_machine_memory, .int p0_machine_size, .ref hp0_machine_stack, .int z2, .ref hp0_machine_starts, .ref hp0_machine_lengths, .int p0_machine_blocks])), (hp0_machine_stack, .inl (E.1, 40, .inl z1))] → va_S A s.heap H locs → lv_has ls 5 [] → W p l e w_rm_X3_readStack s m args below meth c H locs 0 0 Q (F0 m 33 ls [])) → ∀ (n : Nat) (z1 : (Nat → Int32)) (z2 : Int32) (z3 : Int32), L_X3_readStack_3 i2 i3 p1_bytes K33 n z1 z2 z3 = some (r, o0, o1) → ∀ (H : Heap) (locs : List Loc) (ls : Array Slot), va_P G vwCl [(hp0, .inr (3, [.ref hp0_story, .ref hp0_machine, .ref hp0_others, .int p0_fault, .int p0_place, .int p0_next, .int p0_sawHead, .int p0_sawMemory, .int p0_sawStack, .int p0_sawBlocks])), (hp1, .inr (0, [.ref hp1_bytes, .int p1_size, .int p1_overflowed])), (hp1_bytes, .inl (E.1, 1200, .inl p1_bytes)), (hp0_machine, .inr (1, [.ref hp0_machine_memory, .int p0_machine_size, .ref hp0_machine_stack, .int z2, .ref hp0_machine_starts, .ref hp0_machine_lengths, .int p0_machine_blocks])), (hp0_machine_stack, .inl (E.1, 40, .inl z1))] H → va_D A [(hp0, .inr (3, [.ref hp0_story, .ref hp0_machine, .ref hp0_others, .int p0_fault, .int p0_place, .int p0_next, .int p0_sawHead, .int p0_sawMemory, .int p0_sawStack, .int p0_sawBlocks])), (hp1, .inr (0, [.ref hp1_bytes, .int p1_size, .int p1_overflowed])), (hp1_bytes, .inl (E.1, 1200, .inl p1_bytes)), (hp0_machine, .inr (1, [.ref hp0_machine_memory, .int p0_machine_size, .ref hp0_machine_stack, .int z2, .ref hp0_machine_starts, .ref hp0_machine_lengths, .int p0_machine_blocks])), (hp0_machine_stack, .inl (E.1, 40, .inl z1))] → va_S A s.heap H locs → lv_has ls 5 [(0, .ref hp0), (1, .ref hp1), (2, .int i2), (3, .int i3), (4, .int z3)] → W p l e w_rm_X3_readStack s m args below meth c H locs 0 0 Q (F0 m 3 ls []) := by
    intro K33 hK33 n
    induction n with
    | zero =>
      intro z1 z2 z3 h
      replace h : (none : Option (Int32 × (Nat → Int32) × Int32)) = some (r, o0, o1) := h
      cases h
    | succ n ih =>
      intro z1 z2 z3 h H locs ls hP hD hS hl
      replace h : B_X3_readStack_3 i2 i3 p1_bytes (fun z1 z2 z3 => L_X3_readStack_3 i2 i3 p1_bytes K33 n z1 z2 z3) K33 z1 z2 z3 = some (r, o0, o1) := h
      obtain ⟨rec3, hrec3⟩ : ∃ f : (Nat → Int32) → Int32 → Int32 → Option (Int32 × (Nat → Int32) × Int32), f = (fun z1 z2 z3 => L_X3_readStack_3 i2 i3 p1_bytes K33 n z1 z2 z3) := ⟨_, rfl⟩
      rw [← hrec3] at h
      unfold B_X3_readStack_3 at h
      refine lv_iload hx hb dX3_readStack_3 (lv_at hl 4 rfl) ?_
      refine lv_iload_n hx hb dX3_readStack_5 rfl (lv_at hl 3 rfl) ?_
      refine lv_icmp_ge (tgt := 33) hx hb dX3_readStack_6 (by decide) (fun c4 => ?_) (fun c4 => ?_)
      · replace h := if_t h c4
        exact hK33 z1 z2 z3 h _ _ _ hP hD hS (lv_sub hl [] rfl)
      · replace h := if_f h c4
        refine lv_aload_n hx hb dX3_readStack_9 rfl (lv_at hl 0 rfl) ?_
        refine getF (D := G) (ci := 3) (v := .ref hp0_machine) (C := RX3) (T := TX3) (N := 10) hx hb hts inG_X3 hown hK.1 hP 0 rfl rfl 1 (by decide) tf_X3_1 (hts _ wd_4f086646) rfl dX3_readStack_10 ?_
        refine lv_aload_n hx hb dX3_readStack_13 rfl (lv_at hl 1 rfl) ?_
        refine lv_iload_n hx hb dX3_readStack_14 rfl (lv_at hl 2 rfl) ?_
        refine lv_iconst (v := 4) hx hb dX3_readStack_15 (by decide) ?_
        refine lv_iload hx hb dX3_readStack_16 (lv_at hl 4 rfl) ?_
        refine lv_imul hx hb dX3_readStack_18 ?_
        refine lv_iadd hx hb dX3_readStack_19 ?_
        obtain ⟨u5, hu5, h⟩ := bd_t h
        refine cVi (wr := [(hp0, .inr (3, [.ref hp0_story, .ref hp0_machine, .ref hp0_others, .int p0_fault, .int p0_place, .int p0_next, .int p0_sawHead, .int p0_sawMemory, .int p0_sawStack, .int p0_sawBlocks])), (hp0_machine, .inr (1, [.ref hp0_machine_memory, .int p0_machine_size, .ref hp0_machine_stack, .int z2, .ref hp0_machine_starts, .ref hp0_machine_lengths, .int p0_machine_blocks])), (hp0_machine_stack, .inl (E.1, 40, .inl z1))]) (As := [.int (i2 + ((4 : Int32) * z3))]) (rest := [.ref hp0_machine]) ⟨hx, hb, hml, hown, hts⟩ (c_X0_fourAt l G E hp1 hp1_bytes p1_size p1_overflowed p1_bytes (i2 + ((4 : Int32) * z3)) u5 hu5) ok_X0_fourAt okv_X0_fourAt wd_6a67b9d3 ⟨Nat.le_of_ble_eq_true rfl, Nat.le_of_ble_eq_true rfl⟩ hK hP hD hS hA [1, 2] [0, 3, 4] rfl rfl (by decide) (by decide) (by decide) (va_recv hK.1 hP (ci := 0) (q0 := 1) rfl rfl) rfl hl.1 rfl (Nat.le_of_ble_eq_true rfl) dX3_readStack_20 ⟨Nat.le_of_ble_eq_true rfl, Nat.le_of_ble_eq_true rfl⟩ (fun H locs a6 hP hD hS => ?_)
        have hP : va_P G vwCl [(hp0, .inr (3, [.ref hp0_story, .ref hp0_machine, .ref hp0_others, .int p0_fault, .int p0_place, .int p0_next, .int p0_sawHead, .int p0_sawMemory, .int p0_sawStack, .int p0_sawBlocks])), (hp0_machine, .inr (1, [.ref hp0_machine_memory, .int p0_machine_size, .ref hp0_machine_stack, .int z2, .ref hp0_machine_starts, .ref hp0_machine_lengths, .int p0_machine_blocks])), (hp0_machine_stack, .inl (E.1, 40, .inl z1)), (hp1, .inr (0, [.ref hp1_bytes, .int p1_size, .int p1_overflowed])), (hp1_bytes, .inl (E.1, 1200, .inl p1_bytes))] H := hP
        have hD : va_D A [(hp0, .inr (3, [.ref hp0_story, .ref hp0_machine, .ref hp0_others, .int p0_fault, .int p0_place, .int p0_next, .int p0_sawHead, .int p0_sawMemory, .int p0_sawStack, .int p0_sawBlocks])), (hp0_machine, .inr (1, [.ref hp0_machine_memory, .int p0_machine_size, .ref hp0_machine_stack, .int z2, .ref hp0_machine_starts, .ref hp0_machine_lengths, .int p0_machine_blocks])), (hp0_machine_stack, .inl (E.1, 40, .inl z1)), (hp1, .inr (0, [.ref hp1_bytes, .int p1_size, .int p1_overflowed])), (hp1_bytes, .inl (E.1, 1200, .inl p1_bytes))] := hD
        obtain ⟨u7, hu7, h⟩ := bd_t h
        refine cVi (wr := [(hp0, .inr (3, [.ref hp0_story, .ref hp0_machine, .ref hp0_others, .int p0_fault, .int p0_place, .int p0_next, .int p0_sawHead, .int p0_sawMemory, .int p0_sawStack, .int p0_sawBlocks])), (hp1, .inr (0, [.ref hp1_bytes, .int p1_size, .int p1_overflowed])), (hp1_bytes, .inl (E.1, 1200, .inl p1_bytes))]) (As := [.int u5]) (rest := []) ⟨hx, hb, hml, hown, hts⟩ (c_X1_addInt l G E hp0_machine hp0_machine_memory p0_machine_size hp0_machine_stack z2 hp0_machine_starts hp0_machine_lengths p0_machine_blocks z1 u5 u7.1 u7.2.1 u7.2.2 hu7) ok_X1_addInt okv_X1_addInt wd_7f9c7619 ⟨Nat.le_of_ble_eq_true rfl, Nat.le_of_ble_eq_true rfl⟩ hK hP hD hS hA [1, 2] [0, 3, 4] rfl rfl (by decide) (by decide) (by decide) (va_recv hK.1 hP (ci := 1) (q0 := 1) rfl rfl) rfl hl.1 rfl (Nat.le_of_ble_eq_true rfl) dX3_readStack_23 ⟨Nat.le_of_ble_eq_true rfl, Nat.le_of_ble_eq_true rfl⟩ (fun H locs a8 hP hD hS => ?_)
        have hP : va_P G vwCl [(hp0, .inr (3, [.ref hp0_story, .ref hp0_machine, .ref hp0_others, .int p0_fault, .int p0_place, .int p0_next, .int p0_sawHead, .int p0_sawMemory, .int p0_sawStack, .int p0_sawBlocks])), (hp1, .inr (0, [.ref hp1_bytes, .int p1_size, .int p1_overflowed])), (hp1_bytes, .inl (E.1, 1200, .inl p1_bytes)), (hp0_machine, .inr (1, [.ref hp0_machine_memory, .int p0_machine_size, .ref hp0_machine_stack, .int u7.2.2, .ref hp0_machine_starts, .ref hp0_machine_lengths, .int p0_machine_blocks])), (hp0_machine_stack, .inl (E.1, 40, .inl u7.2.1))] H := hP
        have hD : va_D A [(hp0, .inr (3, [.ref hp0_story, .ref hp0_machine, .ref hp0_others, .int p0_fault, .int p0_place, .int p0_next, .int p0_sawHead, .int p0_sawMemory, .int p0_sawStack, .int p0_sawBlocks])), (hp1, .inr (0, [.ref hp1_bytes, .int p1_size, .int p1_overflowed])), (hp1_bytes, .inl (E.1, 1200, .inl p1_bytes)), (hp0_machine, .inr (1, [.ref hp0_machine_memory, .int p0_machine_size, .ref hp0_machine_stack, .int u7.2.2, .ref hp0_machine_starts, .ref hp0_machine_lengths, .int p0_machine_blocks])), (hp0_machine_stack, .inl (E.1, 40, .inl u7.2.1))] := hD
        refine lv_pop hx hb dX3_readStack_26 rfl ?_
        obtain ⟨x9, ex9⟩ : ∃ y : Int32, y = z3 + 1 := ⟨_, rfl⟩
        replace h := bn_t h ex9
        refine lv_iinc (v := x9) (lv' := [(4, .int x9), (0, .ref hp0), (1, .ref hp1), (2, .int i2), (3, .int i3)]) hx hb dX3_readStack_27 hl (k := 4) rfl (by rw [ex9]; rfl) (by decide) rfl (fun ls hl => ?_)
        refine lv_goto (tgt := 3) hx hb dX3_readStack_30 (by decide) ?_
        exact ih u7.2.1 u7.2.2 x9 (by rw [hrec3] at h; exact h) _ _ _ hP hD hS (lv_sub hl [1, 2, 3, 4, 0] rfl)
  refine hL3 _ (fun z1 z2 z3 h H locs ls hP hD hS hl => ?_) N p0_machine_stack p0_machine_depth (0 : Int32) h _ _ _ hP hD hS (lv_sub hl [1, 2, 3, 4, 0] rfl)
  try dsimp only at h
  refine lv_iconst (v := 1) hx hb dX3_readStack_33 (by decide) ?_
  cases h
  exact ret _ _ _ _ _ (fun _ => 0) rfl rfl hP hD hS dX3_readStack_34
def J_X3_readBlocks_104 (x9 : Int32) (y20 : (Nat → Int32)) (y21 : (Nat → Int32)) (y22 : Int32) : Option (Int32 × Int32 × Int32 × (Nat → Int32) × (Nat → Int32) × Int32) :=
  bd (f_X3_fail (7 : Int32) x9) fun u23 =>
  gbo u23.1 <|
  some (u23.1, u23.2.1, u23.2.2, y20, y21, y22)
def B_X3_readBlocks_20 (N : Nat) (i2 : Int32) (i3 : Int32) (p1_bytes : (Nat → Int32)) (p0_story_end : Int32) (p0_machine_size : Int32) (rec20 : (Nat → Int32) → (Nat → Int32) → Int32 → Int32 → Option (Int32 × Int32 × Int32 × (Nat → Int32) × (Nat → Int32) × Int32)) (K119 : (Nat → Int32) → (Nat → Int32) → Int32 → Int32 → Option (Int32 × Int32 × Int32 × (Nat → Int32) × (Nat → Int32) × Int32)) (z4 : (Nat → Int32)) (z5 : (Nat → Int32)) (z6 : Int32) (z7 : Int32) : Option (Int32 × Int32 × Int32 × (Nat → Int32) × (Nat → Int32) × Int32) :=
  if i3 ≤ z7 then (
  K119 z4 z5 z6 z7)
  else
  bn ((i2 + (4 : Int32)) + ((8 : Int32) * z7)) fun x9 =>
  bd (f_X0_fourAt x9 p1_bytes) fun u10 =>
  bd (f_X0_fourAt (x9 + (4 : Int32)) p1_bytes) fun u12 =>
  bd (f_X1_blocksEnd z6 z4 z5) fun u14 =>
  bn (i_max p0_story_end u14) fun x16 =>
  bd (f_X1_fits N u10 u12 x16 p0_machine_size z6 z4 z5) fun u17 =>
  if u17 = 0 then (
  J_X3_readBlocks_104 x9 z4 z5 z6)
  else
  bd (f_X1_addBlock N u10 u12 z6 z4 z5) fun u26 =>
  if u26.1 = 0 then (
  J_X3_readBlocks_104 x9 u26.2.1 u26.2.2.1 u26.2.2.2)
  else
  bn (z7 + 1) fun x29 =>
  rec20 u26.2.1 u26.2.2.1 u26.2.2.2 x29
def L_X3_readBlocks_20 (N : Nat) (i2 : Int32) (i3 : Int32) (p1_bytes : (Nat → Int32)) (p0_story_end : Int32) (p0_machine_size : Int32) (K119 : (Nat → Int32) → (Nat → Int32) → Int32 → Int32 → Option (Int32 × Int32 × Int32 × (Nat → Int32) × (Nat → Int32) × Int32)) : Nat → (Nat → Int32) → (Nat → Int32) → Int32 → Int32 → Option (Int32 × Int32 × Int32 × (Nat → Int32) × (Nat → Int32) × Int32)
    | 0, _, _, _, _ => none
    | n + 1, z4, z5, z6, z7 => B_X3_readBlocks_20 N i2 i3 p1_bytes p0_story_end p0_machine_size (fun z4 z5 z6 z7 => L_X3_readBlocks_20 N i2 i3 p1_bytes p0_story_end p0_machine_size K119 n z4 z5 z6 z7) K119 z4 z5 z6 z7
def f_X3_readBlocks (N : Nat) (i2 : Int32) (i3 : Int32) (p1_bytes : (Nat → Int32)) (p0_fault : Int32) (p0_place : Int32) (p0_story_end : Int32) (p0_machine_size : Int32) (p0_machine_blocks : Int32) (p0_machine_starts : (Nat → Int32)) (p0_machine_lengths : (Nat → Int32)) : Option (Int32 × Int32 × Int32 × (Nat → Int32) × (Nat → Int32) × Int32) :=
  bd (f_X0_fourAt i2 p1_bytes) fun u1 =>
  if u1 = i3 then (
  L_X3_readBlocks_20 N i2 i3 p1_bytes p0_story_end p0_machine_size 
  (fun z4 z5 z6 z7 =>
  some ((1 : Int32), p0_fault, p0_place, z4, z5, z6)) N p0_machine_starts p0_machine_lengths p0_machine_blocks (0 : Int32))
  else
  bd (f_X3_fail (7 : Int32) i2) fun u30 =>
  gbo u30.1 <|
  some (u30.1, u30.2.1, u30.2.2, p0_machine_starts, p0_machine_lengths, p0_machine_blocks)
abbrev w_rm_X3_readBlocks : Room := { frames := 2, cells := 0, slots := 0, locals := 44 }
set_option maxHeartbeats 4000000 in
set_option maxRecDepth 100000 in
theorem c_X3_readBlocks (l : Launch) (G : va_G) (E : ClassId × ClassId × ClassId) (N : Nat) (hp1 : Nat) (hp1_bytes : Nat) (p1_size : Int32) (p1_overflowed : Int32) (p1_bytes : (Nat → Int32)) (hp0 : Nat) (hp0_story : Nat) (hp0_machine : Nat) (hp0_others : Nat) (p0_fault : Int32) (p0_place : Int32) (p0_next : Int32) (p0_sawHead : Int32) (p0_sawMemory : Int32) (p0_sawStack : Int32) (p0_sawBlocks : Int32) (p0_story_ram : Int32) (p0_story_end : Int32) (hp0_story_original : Nat) (hp0_machine_memory : Nat) (p0_machine_size : Int32) (hp0_machine_stack : Nat) (p0_machine_depth : Int32) (hp0_machine_starts : Nat) (hp0_machine_lengths : Nat) (p0_machine_blocks : Int32) (p0_machine_starts : (Nat → Int32)) (p0_machine_lengths : (Nat → Int32)) (i2 : Int32) (i3 : Int32) (r : Int32) (o0 : Int32) (o1 : Int32) (o2 : (Nat → Int32)) (o3 : (Nat → Int32)) (o4 : Int32) (h : f_X3_readBlocks N i2 i3 p1_bytes p0_fault p0_place p0_story_end p0_machine_size p0_machine_blocks p0_machine_starts p0_machine_lengths = some (r, o0, o1, o2, o3, o4)) : MI l G E yX3_readBlocks cX3_readBlocks 9 .boolean w_rm_X3_readBlocks [.ref hp0, .ref hp1, .int i2, .int i3] [(hp1, .inr (0, [.ref hp1_bytes, .int p1_size, .int p1_overflowed])), (hp1_bytes, .inl (E.1, 1200, .inl p1_bytes)), (hp0, .inr (3, [.ref hp0_story, .ref hp0_machine, .ref hp0_others, .int p0_fault, .int p0_place, .int p0_next, .int p0_sawHead, .int p0_sawMemory, .int p0_sawStack, .int p0_sawBlocks])), (hp0_story, .inr (4, [.int p0_story_ram, .int p0_story_end, .ref hp0_story_original])), (hp0_machine, .inr (1, [.ref hp0_machine_memory, .int p0_machine_size, .ref hp0_machine_stack, .int p0_machine_depth, .ref hp0_machine_starts, .ref hp0_machine_lengths, .int p0_machine_blocks])), (hp0_machine_starts, .inl (E.1, 8, .inl p0_machine_starts)), (hp0_machine_lengths, .inl (E.1, 8, .inl p0_machine_lengths))] r (fun a => [(hp1, .inr (0, [.ref hp1_bytes, .int p1_size, .int p1_overflowed])), (hp1_bytes, .inl (E.1, 1200, .inl p1_bytes)), (hp0, .inr (3, [.ref hp0_story, .ref hp0_machine, .ref hp0_others, .int o0, .int o1, .int p0_next, .int p0_sawHead, .int p0_sawMemory, .int p0_sawStack, .int p0_sawBlocks])), (hp0_story, .inr (4, [.int p0_story_ram, .int p0_story_end, .ref hp0_story_original])), (hp0_machine, .inr (1, [.ref hp0_machine_memory, .int p0_machine_size, .ref hp0_machine_stack, .int p0_machine_depth, .ref hp0_machine_starts, .ref hp0_machine_lengths, .int o4])), (hp0_machine_starts, .inl (E.1, 8, .inl o2)), (hp0_machine_lengths, .inl (E.1, 8, .inl o3))]) 0 0 := by
  refine MI_of (by decide) (Nat.le_of_ble_eq_true rfl) ?_
  intro p e s m args below meth c A Q hx hb hml hown hts hK hA hP hD hS ret ls hl
  replace hl : lv_has ls 9 [(0, .ref hp0), (1, .ref hp1), (2, .int i2), (3, .int i3)] := hl
  unfold f_X3_readBlocks at h
  refine lv_aload_n hx hb dX3_readBlocks_0 rfl (lv_at hl 1 rfl) ?_
  refine lv_iload_n hx hb dX3_readBlocks_1 rfl (lv_at hl 2 rfl) ?_
  obtain ⟨u1, hu1, h⟩ := bd_t h
  refine cVi (wr := [(hp0, .inr (3, [.ref hp0_story, .ref hp0_machine, .ref hp0_others, .int p0_fault, .int p0_place, .int p0_next, .int p0_sawHead, .int p0_sawMemory, .int p0_sawStack, .int p0_sawBlocks])), (hp0_story, .inr (4, [.int p0_story_ram, .int p0_story_end, .ref hp0_story_original])), (hp0_machine, .inr (1, [.ref hp0_machine_memory, .int p0_machine_size, .ref hp0_machine_stack, .int p0_machine_depth, .ref hp0_machine_starts, .ref hp0_machine_lengths, .int p0_machine_blocks])), (hp0_machine_starts, .inl (E.1, 8, .inl p0_machine_starts)), (hp0_machine_lengths, .inl (E.1, 8, .inl p0_machine_lengths))]) (As := [.int i2]) (rest := []) ⟨hx, hb, hml, hown, hts⟩ (c_X0_fourAt l G E hp1 hp1_bytes p1_size p1_overflowed p1_bytes i2 u1 hu1) ok_X0_fourAt okv_X0_fourAt wd_6a67b9d3 ⟨Nat.le_of_ble_eq_true rfl, Nat.le_of_ble_eq_true rfl⟩ hK hP hD hS hA [0, 1] [2, 3, 4, 5, 6] rfl rfl (by decide) (by decide) (by decide) (va_recv hK.1 hP (ci := 0) (q0 := 0) rfl rfl) rfl hl.1 rfl (Nat.le_of_ble_eq_true rfl) dX3_readBlocks_2 ⟨Nat.le_of_ble_eq_true rfl, Nat.le_of_ble_eq_true rfl⟩ (fun H locs a2 hP hD hS => ?_)
  have hP : va_P G vwCl [(hp0, .inr (3, [.ref hp0_story, .ref hp0_machine, .ref hp0_others, .int p0_fault, .int p0_place, .int p0_next, .int p0_sawHead, .int p0_sawMemory, .int p0_sawStack, .int p0_sawBlocks])), (hp0_story, .inr (4, [.int p0_story_ram, .int p0_story_end, .ref hp0_story_original])), (hp0_machine, .inr (1, [.ref hp0_machine_memory, .int p0_machine_size, .ref hp0_machine_stack, .int p0_machine_depth, .ref hp0_machine_starts, .ref hp0_machine_lengths, .int p0_machine_blocks])), (hp0_machine_starts, .inl (E.1, 8, .inl p0_machine_starts)), (hp0_machine_lengths, .inl (E.1, 8, .inl p0_machine_lengths)), (hp1, .inr (0, [.ref hp1_bytes, .int p1_size, .int p1_overflowed])), (hp1_bytes, .inl (E.1, 1200, .inl p1_bytes))] H := hP
  have hD : va_D A [(hp0, .inr (3, [.ref hp0_story, .ref hp0_machine, .ref hp0_others, .int p0_fault, .int p0_place, .int p0_next, .int p0_sawHead, .int p0_sawMemory, .int p0_sawStack, .int p0_sawBlocks])), (hp0_story, .inr (4, [.int p0_story_ram, .int p0_story_end, .ref hp0_story_original])), (hp0_machine, .inr (1, [.ref hp0_machine_memory, .int p0_machine_size, .ref hp0_machine_stack, .int p0_machine_depth, .ref hp0_machine_starts, .ref hp0_machine_lengths, .int p0_machine_blocks])), (hp0_machine_starts, .inl (E.1, 8, .inl p0_machine_starts)), (hp0_machine_lengths, .inl (E.1, 8, .inl p0_machine_lengths)), (hp1, .inr (0, [.ref hp1_bytes, .int p1_size, .int p1_overflowed])), (hp1_bytes, .inl (E.1, 1200, .inl p1_bytes))] := hD
  refine lv_iload_n hx hb dX3_readBlocks_5 rfl (lv_at hl 3 rfl) ?_
  refine lv_icmp_eq (tgt := 17) hx hb dX3_readBlocks_6 (by decide) (fun c3 => ?_) (fun c3 => ?_)
  · replace h := if_t h c3
    refine lv_iconst (v := 0) hx hb dX3_readBlocks_17 (by decide) ?_
    refine lv_istore (lv' := [(4, .int (0 : Int32)), (0, .ref hp0), (1, .ref hp1), (2, .int i2), (3, .int i3)]) hx hb dX3_readBlocks_18 hl (by decide) rfl (fun ls hl => ?_)
    have hL20 : ∀ (K119 : (Nat → Int32) → (Nat → Int32) → Int32 → Int32 → Option (Int32 × Int32 × Int32 × (Nat → Int32) × (Nat → Int32) × Int32)), (∀ (z4 : (Nat → Int32)) (z5 : (Nat → Int32)) (z6 : Int32) (z7 : Int32), K119 z4 z5 z6 z7 = some (r, o0, o1, o2, o3, o4) → ∀ (H : Heap) (locs : List Loc) (ls : Array Slot), va_P G vwCl [(hp0, .inr (3, [.ref hp0_story, .ref hp0_machine, .ref hp0_others, .int p0_fault, .int p0_place, .int p0_next, .int p0_sawHead, .int p0_sawMemory, .int p0_sawStack, .int p0_sawBlocks])), (hp0_story, .inr (4, [.int p0_story_ram, .int p0_story_end, .ref hp0_story_original])), (hp0_machine, .inr (1, [.ref hp0_machine_memory, .int p0_machine_size, .ref hp0_machine_stack, .int p0_machine_depth, .ref hp0_machine_starts, .ref hp0_machine_lengths, .int z6])), (hp0_machine_starts, .inl (E.1, 8, .inl z4)), (hp0_machine_lengths, .inl (E.1, 8, .inl z5)), (hp1, .inr (0, [.ref hp1_bytes, .int p1_size, .int p1_overflowed])), (hp1_bytes, .inl (E.1, 1200, .inl p1_bytes))] H → va_D A [(hp0, .inr (3, [.ref hp0_story, .ref hp0_machine, .ref hp0_others, .int p0_fault, .int p0_place, .int p0_next, .int p0_sawHead, .int p0_sawMemory, .int p0_sawStack, .int p0_sawBlocks])), (hp0_story, .inr (4, [.int p0_story_ram, .int p0_story_end, .ref hp0_story_original])), (hp0_machine, .inr (1, [.ref hp0_machine_memory, .int p0_machine_size, .ref hp0_machine_stack, .int p0_machine_depth, .ref hp0_machine_starts, .ref hp0_machine_lengths, .int z6])), (hp0_machine_starts, .inl (E.1, 8, .inl z4)), (hp0_machine_lengths, .inl (E.1, 8, .inl z5)), (hp1, .inr (0, [.ref hp1_bytes, .int p1_size, .int p1_overflowed])), (hp1_bytes, .inl (E.1, 1200, .inl p1_bytes))] → va_S A s.heap H locs → lv_has ls 9 [] → W p l e w_rm_X3_readBlocks s m args below meth c H locs 0 0 Q (F0 m 119 ls [])) → ∀ (n : Nat) (z4 : (Nat → Int32)) (z5 : (Nat → Int32)) (z6 : Int32) (z7 : Int32), L_X3_readBlocks_20 N i2 i3 p1_bytes p0_story_end p0_machine_size K119 n z4 z5 z6 z7 = some (r, o0, o1, o2, o3, o4) → ∀ (H : Heap) (locs : List Loc) (ls : Array Slot), va_P G vwCl [(hp0, .inr (3, [.ref hp0_story, .ref hp0_machine, .ref hp0_others, .int p0_fault, .int p0_place, .int p0_next, .int p0_sawHead, .int p0_sawMemory, .int p0_sawStack, .int p0_sawBlocks])), (hp0_story, .inr (4, [.int p0_story_ram, .int p0_story_end, .ref hp0_story_original])), (hp0_machine, .inr (1, [.ref hp0_machine_memory, .int p0_machine_size, .ref hp0_machine_stack, .int p0_machine_depth, .ref hp0_machine_starts, .ref hp0_machine_lengths, .int z6])), (hp0_machine_starts, .inl (E.1, 8, .inl z4)), (hp0_machine_lengths, .inl (E.1, 8, .inl z5)), (hp1, .inr (0, [.ref hp1_bytes, .int p1_size, .int p1_overflowed])), (hp1_bytes, .inl (E.1, 1200, .inl p1_bytes))] H → va_D A [(hp0, .inr (3, [.ref hp0_story, .ref hp0_machine, .ref hp0_others, .int p0_fault, .int p0_place, .int p0_next, .int p0_sawHead, .int p0_sawMemory, .int p0_sawStack, .int p0_sawBlocks])), (hp0_story, .inr (4, [.int p0_story_ram, .int p0_story_end, .ref hp0_story_original])), (hp0_machine, .inr (1, [.ref hp0_machine_memory, .int p0_machine_size, .ref hp0_machine_stack, .int p0_machine_depth, .ref hp0_machine_starts, .ref hp0_machine_lengths, .int z6])), (hp0_machine_starts, .inl (E.1, 8, .inl z4)), (hp0_machine_lengths, .inl (E.1, 8, .inl z5)), (hp1, .inr (0, [.ref hp1_bytes, .int p1_size, .int p1_overflowed])), (hp1_bytes, .inl (E.1, 1200, .inl p1_bytes))] → va_S A s.heap H locs → lv_has ls 9 [(0, .ref hp0), (1, .ref hp1), (2, .int i2), (3, .int i3), (4, .int z7)] → W p l e w_rm_X3_readBlocks s m args below meth c H locs 0 0 Q (F0 m 20 ls []) := by
      intro K119 hK119 n
      induction n with
      | zero =>
        intro z4 z5 z6 z7 h
        replace h : (none : Option (Int32 × Int32 × Int32 × (Nat → Int32) × (Nat → Int32) × Int32)) = some (r, o0, o1, o2, o3, o4) := h
        cases h
      | succ n ih =>
        intro z4 z5 z6 z7 h H locs ls hP hD hS hl
        replace h : B_X3_readBlocks_20 N i2 i3 p1_bytes p0_story_end p0_machine_size (fun z4 z5 z6 z7 => L_X3_readBlocks_20 N i2 i3 p1_bytes p0_story_end p0_machine_size K119 n z4 z5 z6 z7) K119 z4 z5 z6 z7 = some (r, o0, o1, o2, o3, o4) := h
        obtain ⟨rec20, hrec20⟩ : ∃ f : (Nat → Int32) → (Nat → Int32) → Int32 → Int32 → Option (Int32 × Int32 × Int32 × (Nat → Int32) × (Nat → Int32) × Int32), f = (fun z4 z5 z6 z7 => L_X3_readBlocks_20 N i2 i3 p1_bytes p0_story_end p0_machine_size K119 n z4 z5 z6 z7) := ⟨_, rfl⟩
        rw [← hrec20] at h
        unfold B_X3_readBlocks_20 at h
        refine lv_iload hx hb dX3_readBlocks_20 (lv_at hl 4 rfl) ?_
        refine lv_iload_n hx hb dX3_readBlocks_22 rfl (lv_at hl 3 rfl) ?_
        refine lv_icmp_ge (tgt := 119) hx hb dX3_readBlocks_23 (by decide) (fun c8 => ?_) (fun c8 => ?_)
        · replace h := if_t h c8
          exact hK119 z4 z5 z6 z7 h _ _ _ hP hD hS (lv_sub hl [] rfl)
        · replace h := if_f h c8
          refine lv_iload_n hx hb dX3_readBlocks_26 rfl (lv_at hl 2 rfl) ?_
          refine lv_iconst (v := 4) hx hb dX3_readBlocks_27 (by decide) ?_
          refine lv_iadd hx hb dX3_readBlocks_28 ?_
          refine lv_bipush (v := 8) hx hb dX3_readBlocks_29 (by decide) ?_
          refine lv_iload hx hb dX3_readBlocks_31 (lv_at hl 4 rfl) ?_
          refine lv_imul hx hb dX3_readBlocks_33 ?_
          refine lv_iadd hx hb dX3_readBlocks_34 ?_
          refine lv_topi (fun x9 ex9 => ?_)
          replace h := bn_t h ex9
          refine lv_istore (lv' := [(5, .int x9), (0, .ref hp0), (1, .ref hp1), (2, .int i2), (3, .int i3), (4, .int z7)]) hx hb dX3_readBlocks_35 hl (by decide) rfl (fun ls hl => ?_)
          refine lv_aload_n hx hb dX3_readBlocks_37 rfl (lv_at hl 2 rfl) ?_
          refine lv_iload hx hb dX3_readBlocks_38 (lv_at hl 0 rfl) ?_
          obtain ⟨u10, hu10, h⟩ := bd_t h
          refine cVi (wr := [(hp0, .inr (3, [.ref hp0_story, .ref hp0_machine, .ref hp0_others, .int p0_fault, .int p0_place, .int p0_next, .int p0_sawHead, .int p0_sawMemory, .int p0_sawStack, .int p0_sawBlocks])), (hp0_story, .inr (4, [.int p0_story_ram, .int p0_story_end, .ref hp0_story_original])), (hp0_machine, .inr (1, [.ref hp0_machine_memory, .int p0_machine_size, .ref hp0_machine_stack, .int p0_machine_depth, .ref hp0_machine_starts, .ref hp0_machine_lengths, .int z6])), (hp0_machine_starts, .inl (E.1, 8, .inl z4)), (hp0_machine_lengths, .inl (E.1, 8, .inl z5))]) (As := [.int x9]) (rest := []) ⟨hx, hb, hml, hown, hts⟩ (c_X0_fourAt l G E hp1 hp1_bytes p1_size p1_overflowed p1_bytes x9 u10 hu10) ok_X0_fourAt okv_X0_fourAt wd_6a67b9d3 ⟨Nat.le_of_ble_eq_true rfl, Nat.le_of_ble_eq_true rfl⟩ hK hP hD hS hA [5, 6] [0, 1, 2, 3, 4] rfl rfl (by decide) (by decide) (by decide) (va_recv hK.1 hP (ci := 0) (q0 := 5) rfl rfl) rfl hl.1 rfl (Nat.le_of_ble_eq_true rfl) dX3_readBlocks_40 ⟨Nat.le_of_ble_eq_true rfl, Nat.le_of_ble_eq_true rfl⟩ (fun H locs a11 hP hD hS => ?_)
          have hP : va_P G vwCl [(hp0, .inr (3, [.ref hp0_story, .ref hp0_machine, .ref hp0_others, .int p0_fault, .int p0_place, .int p0_next, .int p0_sawHead, .int p0_sawMemory, .int p0_sawStack, .int p0_sawBlocks])), (hp0_story, .inr (4, [.int p0_story_ram, .int p0_story_end, .ref hp0_story_original])), (hp0_machine, .inr (1, [.ref hp0_machine_memory, .int p0_machine_size, .ref hp0_machine_stack, .int p0_machine_depth, .ref hp0_machine_starts, .ref hp0_machine_lengths, .int z6])), (hp0_machine_starts, .inl (E.1, 8, .inl z4)), (hp0_machine_lengths, .inl (E.1, 8, .inl z5)), (hp1, .inr (0, [.ref hp1_bytes, .int p1_size, .int p1_overflowed])), (hp1_bytes, .inl (E.1, 1200, .inl p1_bytes))] H := hP
          have hD : va_D A [(hp0, .inr (3, [.ref hp0_story, .ref hp0_machine, .ref hp0_others, .int p0_fault, .int p0_place, .int p0_next, .int p0_sawHead, .int p0_sawMemory, .int p0_sawStack, .int p0_sawBlocks])), (hp0_story, .inr (4, [.int p0_story_ram, .int p0_story_end, .ref hp0_story_original])), (hp0_machine, .inr (1, [.ref hp0_machine_memory, .int p0_machine_size, .ref hp0_machine_stack, .int p0_machine_depth, .ref hp0_machine_starts, .ref hp0_machine_lengths, .int z6])), (hp0_machine_starts, .inl (E.1, 8, .inl z4)), (hp0_machine_lengths, .inl (E.1, 8, .inl z5)), (hp1, .inr (0, [.ref hp1_bytes, .int p1_size, .int p1_overflowed])), (hp1_bytes, .inl (E.1, 1200, .inl p1_bytes))] := hD
          refine lv_istore (lv' := [(6, .int u10), (5, .int x9), (0, .ref hp0), (1, .ref hp1), (2, .int i2), (3, .int i3), (4, .int z7)]) hx hb dX3_readBlocks_43 hl (by decide) rfl (fun ls hl => ?_)
          refine lv_aload_n hx hb dX3_readBlocks_45 rfl (lv_at hl 3 rfl) ?_
          refine lv_iload hx hb dX3_readBlocks_46 (lv_at hl 1 rfl) ?_
          refine lv_iconst (v := 4) hx hb dX3_readBlocks_48 (by decide) ?_
          refine lv_iadd hx hb dX3_readBlocks_49 ?_
          obtain ⟨u12, hu12, h⟩ := bd_t h
          refine cVi (wr := [(hp0, .inr (3, [.ref hp0_story, .ref hp0_machine, .ref hp0_others, .int p0_fault, .int p0_place, .int p0_next, .int p0_sawHead, .int p0_sawMemory, .int p0_sawStack, .int p0_sawBlocks])), (hp0_story, .inr (4, [.int p0_story_ram, .int p0_story_end, .ref hp0_story_original])), (hp0_machine, .inr (1, [.ref hp0_machine_memory, .int p0_machine_size, .ref hp0_machine_stack, .int p0_machine_depth, .ref hp0_machine_starts, .ref hp0_machine_lengths, .int z6])), (hp0_machine_starts, .inl (E.1, 8, .inl z4)), (hp0_machine_lengths, .inl (E.1, 8, .inl z5))]) (As := [.int (x9 + (4 : Int32))]) (rest := []) ⟨hx, hb, hml, hown, hts⟩ (c_X0_fourAt l G E hp1 hp1_bytes p1_size p1_overflowed p1_bytes (x9 + (4 : Int32)) u12 hu12) ok_X0_fourAt okv_X0_fourAt wd_6a67b9d3 ⟨Nat.le_of_ble_eq_true rfl, Nat.le_of_ble_eq_true rfl⟩ hK hP hD hS hA [5, 6] [0, 1, 2, 3, 4] rfl rfl (by decide) (by decide) (by decide) (va_recv hK.1 hP (ci := 0) (q0 := 5) rfl rfl) rfl hl.1 rfl (Nat.le_of_ble_eq_true rfl) dX3_readBlocks_50 ⟨Nat.le_of_ble_eq_true rfl, Nat.le_of_ble_eq_true rfl⟩ (fun H locs a13 hP hD hS => ?_)
          have hP : va_P G vwCl [(hp0, .inr (3, [.ref hp0_story, .ref hp0_machine, .ref hp0_others, .int p0_fault, .int p0_place, .int p0_next, .int p0_sawHead, .int p0_sawMemory, .int p0_sawStack, .int p0_sawBlocks])), (hp0_story, .inr (4, [.int p0_story_ram, .int p0_story_end, .ref hp0_story_original])), (hp0_machine, .inr (1, [.ref hp0_machine_memory, .int p0_machine_size, .ref hp0_machine_stack, .int p0_machine_depth, .ref hp0_machine_starts, .ref hp0_machine_lengths, .int z6])), (hp0_machine_starts, .inl (E.1, 8, .inl z4)), (hp0_machine_lengths, .inl (E.1, 8, .inl z5)), (hp1, .inr (0, [.ref hp1_bytes, .int p1_size, .int p1_overflowed])), (hp1_bytes, .inl (E.1, 1200, .inl p1_bytes))] H := hP
          have hD : va_D A [(hp0, .inr (3, [.ref hp0_story, .ref hp0_machine, .ref hp0_others, .int p0_fault, .int p0_place, .int p0_next, .int p0_sawHead, .int p0_sawMemory, .int p0_sawStack, .int p0_sawBlocks])), (hp0_story, .inr (4, [.int p0_story_ram, .int p0_story_end, .ref hp0_story_original])), (hp0_machine, .inr (1, [.ref hp0_machine_memory, .int p0_machine_size, .ref hp0_machine_stack, .int p0_machine_depth, .ref hp0_machine_starts, .ref hp0_machine_lengths, .int z6])), (hp0_machine_starts, .inl (E.1, 8, .inl z4)), (hp0_machine_lengths, .inl (E.1, 8, .inl z5)), (hp1, .inr (0, [.ref hp1_bytes, .int p1_size, .int p1_overflowed])), (hp1_bytes, .inl (E.1, 1200, .inl p1_bytes))] := hD
          refine lv_istore (lv' := [(7, .int u12), (6, .int u10), (5, .int x9), (0, .ref hp0), (1, .ref hp1), (2, .int i2), (3, .int i3), (4, .int z7)]) hx hb dX3_readBlocks_53 hl (by decide) rfl (fun ls hl => ?_)
          refine lv_aload_n hx hb dX3_readBlocks_55 rfl (lv_at hl 3 rfl) ?_
          refine getF (D := G) (ci := 3) (v := .ref hp0_story) (C := RX3) (T := TX3) (N := 10) hx hb hts inG_X3 hown hK.1 hP 0 rfl rfl 0 (by decide) tf_X3_0 (hts _ wd_6692ab2b) rfl dX3_readBlocks_56 ?_
          refine getF (D := G) (ci := 4) (v := .int p0_story_end) (C := RX4) (T := TX4) (N := 3) hx hb hts inG_X4 hown hK.1 hP 1 rfl rfl 1 (by decide) tf_X4_1 (hts _ wd_938b98ad) rfl dX3_readBlocks_59 ?_
          refine lv_aload_n hx hb dX3_readBlocks_62 rfl (lv_at hl 3 rfl) ?_
          refine getF (D := G) (ci := 3) (v := .ref hp0_machine) (C := RX3) (T := TX3) (N := 10) hx hb hts inG_X3 hown hK.1 hP 0 rfl rfl 1 (by decide) tf_X3_1 (hts _ wd_4f086646) rfl dX3_readBlocks_63 ?_
          obtain ⟨u14, hu14, h⟩ := bd_t h
          refine cVi (wr := [(hp0, .inr (3, [.ref hp0_story, .ref hp0_machine, .ref hp0_others, .int p0_fault, .int p0_place, .int p0_next, .int p0_sawHead, .int p0_sawMemory, .int p0_sawStack, .int p0_sawBlocks])), (hp0_story, .inr (4, [.int p0_story_ram, .int p0_story_end, .ref hp0_story_original])), (hp1, .inr (0, [.ref hp1_bytes, .int p1_size, .int p1_overflowed])), (hp1_bytes, .inl (E.1, 1200, .inl p1_bytes))]) (As := []) (rest := [.int p0_story_end]) ⟨hx, hb, hml, hown, hts⟩ (c_X1_blocksEnd l G E hp0_machine hp0_machine_memory p0_machine_size hp0_machine_stack p0_machine_depth hp0_machine_starts hp0_machine_lengths z6 z4 z5 u14 hu14) ok_X1_blocksEnd okv_X1_blocksEnd wd_25380f5c ⟨Nat.le_of_ble_eq_true rfl, Nat.le_of_ble_eq_true rfl⟩ hK hP hD hS hA [2, 3, 4] [0, 1, 5, 6] rfl rfl (by decide) (by decide) (by decide) (va_recv hK.1 hP (ci := 1) (q0 := 2) rfl rfl) rfl hl.1 rfl (Nat.le_of_ble_eq_true rfl) dX3_readBlocks_66 ⟨Nat.le_of_ble_eq_true rfl, Nat.le_of_ble_eq_true rfl⟩ (fun H locs a15 hP hD hS => ?_)
          have hP : va_P G vwCl [(hp0, .inr (3, [.ref hp0_story, .ref hp0_machine, .ref hp0_others, .int p0_fault, .int p0_place, .int p0_next, .int p0_sawHead, .int p0_sawMemory, .int p0_sawStack, .int p0_sawBlocks])), (hp0_story, .inr (4, [.int p0_story_ram, .int p0_story_end, .ref hp0_story_original])), (hp1, .inr (0, [.ref hp1_bytes, .int p1_size, .int p1_overflowed])), (hp1_bytes, .inl (E.1, 1200, .inl p1_bytes)), (hp0_machine, .inr (1, [.ref hp0_machine_memory, .int p0_machine_size, .ref hp0_machine_stack, .int p0_machine_depth, .ref hp0_machine_starts, .ref hp0_machine_lengths, .int z6])), (hp0_machine_starts, .inl (E.1, 8, .inl z4)), (hp0_machine_lengths, .inl (E.1, 8, .inl z5))] H := hP
          have hD : va_D A [(hp0, .inr (3, [.ref hp0_story, .ref hp0_machine, .ref hp0_others, .int p0_fault, .int p0_place, .int p0_next, .int p0_sawHead, .int p0_sawMemory, .int p0_sawStack, .int p0_sawBlocks])), (hp0_story, .inr (4, [.int p0_story_ram, .int p0_story_end, .ref hp0_story_original])), (hp1, .inr (0, [.ref hp1_bytes, .int p1_size, .int p1_overflowed])), (hp1_bytes, .inl (E.1, 1200, .inl p1_bytes)), (hp0_machine, .inr (1, [.ref hp0_machine_memory, .int p0_machine_size, .ref hp0_machine_stack, .int p0_machine_depth, .ref hp0_machine_starts, .ref hp0_machine_lengths, .int z6])), (hp0_machine_starts, .inl (E.1, 8, .inl z4)), (hp0_machine_lengths, .inl (E.1, 8, .inl z5))] := hD
          refine va_mmax hx hb (hml.trans hl.1.symm) hown (hts _ wd_b858024e) (hts _ wd_81fabe25) (hts _ wd_c6cef573) (hts _ wd_6d6d2127) (Nat.le_of_ble_eq_true rfl) (Nat.le_of_ble_eq_true rfl) (Nat.le_of_ble_eq_true rfl) (Nat.le_of_ble_eq_true rfl) dX3_readBlocks_69 ?_
          refine W.eq (g2 := F0 m 72 ls [.int (i_max p0_story_end u14)]) rfl ?_
          refine lv_topi (fun x16 ex16 => ?_)
          replace h := bn_t h ex16
          refine lv_istore (lv' := [(8, .int x16), (7, .int u12), (6, .int u10), (5, .int x9), (0, .ref hp0), (1, .ref hp1), (2, .int i2), (3, .int i3), (4, .int z7)]) hx hb dX3_readBlocks_72 hl (by decide) rfl (fun ls hl => ?_)
          refine lv_aload_n hx hb dX3_readBlocks_74 rfl (lv_at hl 4 rfl) ?_
          refine getF (D := G) (ci := 3) (v := .ref hp0_machine) (C := RX3) (T := TX3) (N := 10) hx hb hts inG_X3 hown hK.1 hP 0 rfl rfl 1 (by decide) tf_X3_1 (hts _ wd_4f086646) rfl dX3_readBlocks_75 ?_
          refine lv_iload hx hb dX3_readBlocks_78 (lv_at hl 2 rfl) ?_
          refine lv_iload hx hb dX3_readBlocks_80 (lv_at hl 1 rfl) ?_
          refine lv_iload hx hb dX3_readBlocks_82 (lv_at hl 0 rfl) ?_
          obtain ⟨u17, hu17, h⟩ := bd_t h
          refine cVi (wr := [(hp0, .inr (3, [.ref hp0_story, .ref hp0_machine, .ref hp0_others, .int p0_fault, .int p0_place, .int p0_next, .int p0_sawHead, .int p0_sawMemory, .int p0_sawStack, .int p0_sawBlocks])), (hp0_story, .inr (4, [.int p0_story_ram, .int p0_story_end, .ref hp0_story_original])), (hp1, .inr (0, [.ref hp1_bytes, .int p1_size, .int p1_overflowed])), (hp1_bytes, .inl (E.1, 1200, .inl p1_bytes))]) (As := [.int u10, .int u12, .int x16]) (rest := []) ⟨hx, hb, hml, hown, hts⟩ (c_X1_fits l G E N hp0_machine hp0_machine_memory p0_machine_size hp0_machine_stack p0_machine_depth hp0_machine_starts hp0_machine_lengths z6 z4 z5 u10 u12 x16 u17 hu17) ok_X1_fits okv_X1_fits wd_b19731b6 ⟨Nat.le_of_ble_eq_true rfl, Nat.le_of_ble_eq_true rfl⟩ hK hP hD hS hA [4, 5, 6] [0, 1, 2, 3] rfl rfl (by decide) (by decide) (by decide) (va_recv hK.1 hP (ci := 1) (q0 := 4) rfl rfl) rfl hl.1 rfl (Nat.le_of_ble_eq_true rfl) dX3_readBlocks_84 ⟨Nat.le_of_ble_eq_true rfl, Nat.le_of_ble_eq_true rfl⟩ (fun H locs a18 hP hD hS => ?_)
          have hP : va_P G vwCl [(hp0, .inr (3, [.ref hp0_story, .ref hp0_machine, .ref hp0_others, .int p0_fault, .int p0_place, .int p0_next, .int p0_sawHead, .int p0_sawMemory, .int p0_sawStack, .int p0_sawBlocks])), (hp0_story, .inr (4, [.int p0_story_ram, .int p0_story_end, .ref hp0_story_original])), (hp1, .inr (0, [.ref hp1_bytes, .int p1_size, .int p1_overflowed])), (hp1_bytes, .inl (E.1, 1200, .inl p1_bytes)), (hp0_machine, .inr (1, [.ref hp0_machine_memory, .int p0_machine_size, .ref hp0_machine_stack, .int p0_machine_depth, .ref hp0_machine_starts, .ref hp0_machine_lengths, .int z6])), (hp0_machine_starts, .inl (E.1, 8, .inl z4)), (hp0_machine_lengths, .inl (E.1, 8, .inl z5))] H := hP
          have hD : va_D A [(hp0, .inr (3, [.ref hp0_story, .ref hp0_machine, .ref hp0_others, .int p0_fault, .int p0_place, .int p0_next, .int p0_sawHead, .int p0_sawMemory, .int p0_sawStack, .int p0_sawBlocks])), (hp0_story, .inr (4, [.int p0_story_ram, .int p0_story_end, .ref hp0_story_original])), (hp1, .inr (0, [.ref hp1_bytes, .int p1_size, .int p1_overflowed])), (hp1_bytes, .inl (E.1, 1200, .inl p1_bytes)), (hp0_machine, .inr (1, [.ref hp0_machine_memory, .int p0_machine_size, .ref hp0_machine_stack, .int p0_machine_depth, .ref hp0_machine_starts, .ref hp0_machine_lengths, .int z6])), (hp0_machine_starts, .inl (E.1, 8, .inl z4)), (hp0_machine_lengths, .inl (E.1, 8, .inl z5))] := hD
          have hJ104 : ∀ (y20 : (Nat → Int32)) (y21 : (Nat → Int32)) (y22 : Int32), J_X3_readBlocks_104 x9 y20 y21 y22 = some (r, o0, o1, o2, o3, o4) → ∀ (H : Heap) (locs : List Loc) (ls : Array Slot), va_P G vwCl [(hp0, .inr (3, [.ref hp0_story, .ref hp0_machine, .ref hp0_others, .int p0_fault, .int p0_place, .int p0_next, .int p0_sawHead, .int p0_sawMemory, .int p0_sawStack, .int p0_sawBlocks])), (hp0_story, .inr (4, [.int p0_story_ram, .int p0_story_end, .ref hp0_story_original])), (hp1, .inr (0, [.ref hp1_bytes, .int p1_size, .int p1_overflowed])), (hp1_bytes, .inl (E.1, 1200, .inl p1_bytes)), (hp0_machine, .inr (1, [.ref hp0_machine_memory, .int p0_machine_size, .ref hp0_machine_stack, .int p0_machine_depth, .ref hp0_machine_starts, .ref hp0_machine_lengths, .int y22])), (hp0_machine_starts, .inl (E.1, 8, .inl y20)), (hp0_machine_lengths, .inl (E.1, 8, .inl y21))] H → va_D A [(hp0, .inr (3, [.ref hp0_story, .ref hp0_machine, .ref hp0_others, .int p0_fault, .int p0_place, .int p0_next, .int p0_sawHead, .int p0_sawMemory, .int p0_sawStack, .int p0_sawBlocks])), (hp0_story, .inr (4, [.int p0_story_ram, .int p0_story_end, .ref hp0_story_original])), (hp1, .inr (0, [.ref hp1_bytes, .int p1_size, .int p1_overflowed])), (hp1_bytes, .inl (E.1, 1200, .inl p1_bytes)), (hp0_machine, .inr (1, [.ref hp0_machine_memory, .int p0_machine_size, .ref hp0_machine_stack, .int p0_machine_depth, .ref hp0_machine_starts, .ref hp0_machine_lengths, .int y22])), (hp0_machine_starts, .inl (E.1, 8, .inl y20)), (hp0_machine_lengths, .inl (E.1, 8, .inl y21))] → va_S A s.heap H locs → lv_has ls 9 [(0, .ref hp0), (5, .int x9)] → W p l e w_rm_X3_readBlocks s m args below meth c H locs 0 0 Q (F0 m 104 ls []) := by
            intro y20 y21 y22 h H locs ls hP hD hS hl
            unfold J_X3_readBlocks_104 at h
            refine lv_aload_n hx hb dX3_readBlocks_104 rfl (lv_at hl 0 rfl) ?_
            refine lv_bipush (v := 7) hx hb dX3_readBlocks_105 (by decide) ?_
            refine lv_iload hx hb dX3_readBlocks_107 (lv_at hl 1 rfl) ?_
            obtain ⟨u23, hu23, h⟩ := bd_t h
            refine cVi (wr := [(hp0_story, .inr (4, [.int p0_story_ram, .int p0_story_end, .ref hp0_story_original])), (hp1, .inr (0, [.ref hp1_bytes, .int p1_size, .int p1_overflowed])), (hp1_bytes, .inl (E.1, 1200, .inl p1_bytes)), (hp0_machine, .inr (1, [.ref hp0_machine_memory, .int p0_machine_size, .ref hp0_machine_stack, .int p0_machine_depth, .ref hp0_machine_starts, .ref hp0_machine_lengths, .int y22])), (hp0_machine_starts, .inl (E.1, 8, .inl y20)), (hp0_machine_lengths, .inl (E.1, 8, .inl y21))]) (As := [.int (7 : Int32), .int x9]) (rest := []) ⟨hx, hb, hml, hown, hts⟩ (c_X3_fail l G E hp0 hp0_story hp0_machine hp0_others p0_fault p0_place p0_next p0_sawHead p0_sawMemory p0_sawStack p0_sawBlocks (7 : Int32) x9 u23.1 u23.2.1 u23.2.2 hu23) ok_X3_fail okv_X3_fail wd_c4b21be1 ⟨Nat.le_of_ble_eq_true rfl, Nat.le_of_ble_eq_true rfl⟩ hK hP hD hS hA [0] [1, 2, 3, 4, 5, 6] rfl rfl (by decide) (by decide) (by decide) (va_recv hK.1 hP (ci := 3) (q0 := 0) rfl rfl) rfl hl.1 rfl (Nat.le_of_ble_eq_true rfl) dX3_readBlocks_109 ⟨Nat.le_of_ble_eq_true rfl, Nat.le_of_ble_eq_true rfl⟩ (fun H locs a24 hP hD hS => ?_)
            have hP : va_P G vwCl [(hp0_story, .inr (4, [.int p0_story_ram, .int p0_story_end, .ref hp0_story_original])), (hp1, .inr (0, [.ref hp1_bytes, .int p1_size, .int p1_overflowed])), (hp1_bytes, .inl (E.1, 1200, .inl p1_bytes)), (hp0_machine, .inr (1, [.ref hp0_machine_memory, .int p0_machine_size, .ref hp0_machine_stack, .int p0_machine_depth, .ref hp0_machine_starts, .ref hp0_machine_lengths, .int y22])), (hp0_machine_starts, .inl (E.1, 8, .inl y20)), (hp0_machine_lengths, .inl (E.1, 8, .inl y21)), (hp0, .inr (3, [.ref hp0_story, .ref hp0_machine, .ref hp0_others, .int u23.2.1, .int u23.2.2, .int p0_next, .int p0_sawHead, .int p0_sawMemory, .int p0_sawStack, .int p0_sawBlocks]))] H := hP
            have hD : va_D A [(hp0_story, .inr (4, [.int p0_story_ram, .int p0_story_end, .ref hp0_story_original])), (hp1, .inr (0, [.ref hp1_bytes, .int p1_size, .int p1_overflowed])), (hp1_bytes, .inl (E.1, 1200, .inl p1_bytes)), (hp0_machine, .inr (1, [.ref hp0_machine_memory, .int p0_machine_size, .ref hp0_machine_stack, .int p0_machine_depth, .ref hp0_machine_starts, .ref hp0_machine_lengths, .int y22])), (hp0_machine_starts, .inl (E.1, 8, .inl y20)), (hp0_machine_lengths, .inl (E.1, 8, .inl y21)), (hp0, .inr (3, [.ref hp0_story, .ref hp0_machine, .ref hp0_others, .int u23.2.1, .int u23.2.2, .int p0_next, .int p0_sawHead, .int p0_sawMemory, .int p0_sawStack, .int p0_sawBlocks]))] := hD
            obtain ⟨g25, h⟩ := gbo_t h
            cases h
            exact ret _ _ _ _ _ (fun _ => 0) rfl (bo_nar g25) (hP.sub [1, 2, 6, 0, 3, 4, 5] rfl) (hD.sub [1, 2, 6, 0, 3, 4, 5] (by decide) rfl) hS dX3_readBlocks_112
          refine lv_if_eq (tgt := 104) hx hb dX3_readBlocks_87 (by decide) (fun c19 => ?_) (fun c19 => ?_)
          · replace h := if_t h c19
            exact hJ104 z4 z5 z6 h _ _ _ hP hD hS (lv_sub hl [4, 3] rfl)
          · replace h := if_f h c19
            refine lv_aload_n hx hb dX3_readBlocks_90 rfl (lv_at hl 4 rfl) ?_
            refine getF (D := G) (ci := 3) (v := .ref hp0_machine) (C := RX3) (T := TX3) (N := 10) hx hb hts inG_X3 hown hK.1 hP 0 rfl rfl 1 (by decide) tf_X3_1 (hts _ wd_4f086646) rfl dX3_readBlocks_91 ?_
            refine lv_iload hx hb dX3_readBlocks_94 (lv_at hl 2 rfl) ?_
            refine lv_iload hx hb dX3_readBlocks_96 (lv_at hl 1 rfl) ?_
            obtain ⟨u26, hu26, h⟩ := bd_t h
            refine cVi (wr := [(hp0, .inr (3, [.ref hp0_story, .ref hp0_machine, .ref hp0_others, .int p0_fault, .int p0_place, .int p0_next, .int p0_sawHead, .int p0_sawMemory, .int p0_sawStack, .int p0_sawBlocks])), (hp0_story, .inr (4, [.int p0_story_ram, .int p0_story_end, .ref hp0_story_original])), (hp1, .inr (0, [.ref hp1_bytes, .int p1_size, .int p1_overflowed])), (hp1_bytes, .inl (E.1, 1200, .inl p1_bytes))]) (As := [.int u10, .int u12]) (rest := []) ⟨hx, hb, hml, hown, hts⟩ (c_X1_addBlock l G E N hp0_machine hp0_machine_memory p0_machine_size hp0_machine_stack p0_machine_depth hp0_machine_starts hp0_machine_lengths z6 z4 z5 u10 u12 u26.1 u26.2.1 u26.2.2.1 u26.2.2.2 hu26) ok_X1_addBlock okv_X1_addBlock wd_5f5457fd ⟨Nat.le_of_ble_eq_true rfl, Nat.le_of_ble_eq_true rfl⟩ hK hP hD hS hA [4, 5, 6] [0, 1, 2, 3] rfl rfl (by decide) (by decide) (by decide) (va_recv hK.1 hP (ci := 1) (q0 := 4) rfl rfl) rfl hl.1 rfl (Nat.le_of_ble_eq_true rfl) dX3_readBlocks_98 ⟨Nat.le_of_ble_eq_true rfl, Nat.le_of_ble_eq_true rfl⟩ (fun H locs a27 hP hD hS => ?_)
            have hP : va_P G vwCl [(hp0, .inr (3, [.ref hp0_story, .ref hp0_machine, .ref hp0_others, .int p0_fault, .int p0_place, .int p0_next, .int p0_sawHead, .int p0_sawMemory, .int p0_sawStack, .int p0_sawBlocks])), (hp0_story, .inr (4, [.int p0_story_ram, .int p0_story_end, .ref hp0_story_original])), (hp1, .inr (0, [.ref hp1_bytes, .int p1_size, .int p1_overflowed])), (hp1_bytes, .inl (E.1, 1200, .inl p1_bytes)), (hp0_machine, .inr (1, [.ref hp0_machine_memory, .int p0_machine_size, .ref hp0_machine_stack, .int p0_machine_depth, .ref hp0_machine_starts, .ref hp0_machine_lengths, .int u26.2.2.2])), (hp0_machine_starts, .inl (E.1, 8, .inl u26.2.1)), (hp0_machine_lengths, .inl (E.1, 8, .inl u26.2.2.1))] H := hP
            have hD : va_D A [(hp0, .inr (3, [.ref hp0_story, .ref hp0_machine, .ref hp0_others, .int p0_fault, .int p0_place, .int p0_next, .int p0_sawHead, .int p0_sawMemory, .int p0_sawStack, .int p0_sawBlocks])), (hp0_story, .inr (4, [.int p0_story_ram, .int p0_story_end, .ref hp0_story_original])), (hp1, .inr (0, [.ref hp1_bytes, .int p1_size, .int p1_overflowed])), (hp1_bytes, .inl (E.1, 1200, .inl p1_bytes)), (hp0_machine, .inr (1, [.ref hp0_machine_memory, .int p0_machine_size, .ref hp0_machine_stack, .int p0_machine_depth, .ref hp0_machine_starts, .ref hp0_machine_lengths, .int u26.2.2.2])), (hp0_machine_starts, .inl (E.1, 8, .inl u26.2.1)), (hp0_machine_lengths, .inl (E.1, 8, .inl u26.2.2.1))] := hD
            refine lv_if_ne (tgt := 113) hx hb dX3_readBlocks_101 (by decide) (fun c28 => ?_) (fun c28 => ?_)
            · replace h := if_f h c28
              obtain ⟨x29, ex29⟩ : ∃ y : Int32, y = z7 + 1 := ⟨_, rfl⟩
              replace h := bn_t h ex29
              refine lv_iinc (v := x29) (lv' := [(4, .int x29), (8, .int x16), (7, .int u12), (6, .int u10), (5, .int x9), (0, .ref hp0), (1, .ref hp1), (2, .int i2), (3, .int i3)]) hx hb dX3_readBlocks_113 hl (k := 8) rfl (by rw [ex29]; rfl) (by decide) rfl (fun ls hl => ?_)
              refine lv_goto (tgt := 20) hx hb dX3_readBlocks_116 (by decide) ?_
              exact ih u26.2.1 u26.2.2.1 u26.2.2.2 x29 (by rw [hrec20] at h; exact h) _ _ _ (hP.sub [0, 1, 4, 5, 6, 2, 3] rfl) (hD.sub [0, 1, 4, 5, 6, 2, 3] (by decide) rfl) hS (lv_sub hl [5, 6, 7, 8, 0] rfl)
            · replace h := if_t h c28
              exact hJ104 u26.2.1 u26.2.2.1 u26.2.2.2 h _ _ _ hP hD hS (lv_sub hl [4, 3] rfl)
    refine hL20 _ (fun z4 z5 z6 z7 h H locs ls hP hD hS hl => ?_) N p0_machine_starts p0_machine_lengths p0_machine_blocks (0 : Int32) h _ _ _ hP hD hS (lv_sub hl [1, 2, 3, 4, 0] rfl)
    try dsimp only at h
    refine lv_iconst (v := 1) hx hb dX3_readBlocks_119 (by decide) ?_
    cases h
    exact ret _ _ _ _ _ (fun _ => 0) rfl rfl (hP.sub [5, 6, 0, 1, 2, 3, 4] rfl) (hD.sub [5, 6, 0, 1, 2, 3, 4] (by decide) rfl) hS dX3_readBlocks_120
  · replace h := if_f h c3
    refine lv_aload_n hx hb dX3_readBlocks_9 rfl (lv_at hl 0 rfl) ?_
    refine lv_bipush (v := 7) hx hb dX3_readBlocks_10 (by decide) ?_
    refine lv_iload_n hx hb dX3_readBlocks_12 rfl (lv_at hl 2 rfl) ?_
    obtain ⟨u30, hu30, h⟩ := bd_t h
    refine cVi (wr := [(hp0_story, .inr (4, [.int p0_story_ram, .int p0_story_end, .ref hp0_story_original])), (hp0_machine, .inr (1, [.ref hp0_machine_memory, .int p0_machine_size, .ref hp0_machine_stack, .int p0_machine_depth, .ref hp0_machine_starts, .ref hp0_machine_lengths, .int p0_machine_blocks])), (hp0_machine_starts, .inl (E.1, 8, .inl p0_machine_starts)), (hp0_machine_lengths, .inl (E.1, 8, .inl p0_machine_lengths)), (hp1, .inr (0, [.ref hp1_bytes, .int p1_size, .int p1_overflowed])), (hp1_bytes, .inl (E.1, 1200, .inl p1_bytes))]) (As := [.int (7 : Int32), .int i2]) (rest := []) ⟨hx, hb, hml, hown, hts⟩ (c_X3_fail l G E hp0 hp0_story hp0_machine hp0_others p0_fault p0_place p0_next p0_sawHead p0_sawMemory p0_sawStack p0_sawBlocks (7 : Int32) i2 u30.1 u30.2.1 u30.2.2 hu30) ok_X3_fail okv_X3_fail wd_c4b21be1 ⟨Nat.le_of_ble_eq_true rfl, Nat.le_of_ble_eq_true rfl⟩ hK hP hD hS hA [0] [1, 2, 3, 4, 5, 6] rfl rfl (by decide) (by decide) (by decide) (va_recv hK.1 hP (ci := 3) (q0 := 0) rfl rfl) rfl hl.1 rfl (Nat.le_of_ble_eq_true rfl) dX3_readBlocks_13 ⟨Nat.le_of_ble_eq_true rfl, Nat.le_of_ble_eq_true rfl⟩ (fun H locs a31 hP hD hS => ?_)
    have hP : va_P G vwCl [(hp0_story, .inr (4, [.int p0_story_ram, .int p0_story_end, .ref hp0_story_original])), (hp0_machine, .inr (1, [.ref hp0_machine_memory, .int p0_machine_size, .ref hp0_machine_stack, .int p0_machine_depth, .ref hp0_machine_starts, .ref hp0_machine_lengths, .int p0_machine_blocks])), (hp0_machine_starts, .inl (E.1, 8, .inl p0_machine_starts)), (hp0_machine_lengths, .inl (E.1, 8, .inl p0_machine_lengths)), (hp1, .inr (0, [.ref hp1_bytes, .int p1_size, .int p1_overflowed])), (hp1_bytes, .inl (E.1, 1200, .inl p1_bytes)), (hp0, .inr (3, [.ref hp0_story, .ref hp0_machine, .ref hp0_others, .int u30.2.1, .int u30.2.2, .int p0_next, .int p0_sawHead, .int p0_sawMemory, .int p0_sawStack, .int p0_sawBlocks]))] H := hP
    have hD : va_D A [(hp0_story, .inr (4, [.int p0_story_ram, .int p0_story_end, .ref hp0_story_original])), (hp0_machine, .inr (1, [.ref hp0_machine_memory, .int p0_machine_size, .ref hp0_machine_stack, .int p0_machine_depth, .ref hp0_machine_starts, .ref hp0_machine_lengths, .int p0_machine_blocks])), (hp0_machine_starts, .inl (E.1, 8, .inl p0_machine_starts)), (hp0_machine_lengths, .inl (E.1, 8, .inl p0_machine_lengths)), (hp1, .inr (0, [.ref hp1_bytes, .int p1_size, .int p1_overflowed])), (hp1_bytes, .inl (E.1, 1200, .inl p1_bytes)), (hp0, .inr (3, [.ref hp0_story, .ref hp0_machine, .ref hp0_others, .int u30.2.1, .int u30.2.2, .int p0_next, .int p0_sawHead, .int p0_sawMemory, .int p0_sawStack, .int p0_sawBlocks]))] := hD
    obtain ⟨g32, h⟩ := gbo_t h
    cases h
    exact ret _ _ _ _ _ (fun _ => 0) rfl (bo_nar g32) (hP.sub [4, 5, 6, 0, 1, 2, 3] rfl) (hD.sub [4, 5, 6, 0, 1, 2, 3] (by decide) rfl) hS dX3_readBlocks_16
def f_X3_readInside (N : Nat) (i2 : Int32) (i3 : Int32) (i4 : Int32) (p0_fault : Int32) (p0_place : Int32) (p0_sawHead : Int32) (p0_sawMemory : Int32) (p0_sawStack : Int32) (p0_sawBlocks : Int32) (p1_bytes : (Nat → Int32)) (p0_story_ram : Int32) (p0_story_end : Int32) (p0_machine_size : Int32) (p0_machine_depth : Int32) (p0_machine_blocks : Int32) (p0_machine_memory : (Nat → Int32)) (p0_story_original : (Nat → Int32)) (p0_machine_starts : (Nat → Int32)) (p0_machine_lengths : (Nat → Int32)) (p0_machine_stack : (Nat → Int32)) (p0_others_count : Int32) (p0_others_letters : (Nat → Int32)) (p0_others_lengths : (Nat → Int32)) (p0_others_bytes : (Nat → Int32)) : Option (Int32 × Int32 × Int32 × Int32 × Int32 × Int32 × Int32 × (Nat → Int32) × Int32 × (Nat → Int32) × Int32 × (Nat → Int32) × (Nat → Int32) × Int32 × Int32 × (Nat → Int32) × (Nat → Int32) × (Nat → Int32)) :=
  bn (i3 + (8 : Int32)) fun x1 =>
  if i2 = (1129145709 : Int32) then (
  bd (f_X3_readSize x1 p1_bytes p0_fault p0_place p0_story_end p0_machine_size) fun u3 =>
  if u3.1 = 0 then (
  some ((0 : Int32), u3.2.1, u3.2.2.1, p0_sawHead, (1 : Int32), p0_sawStack, p0_sawBlocks, p0_machine_memory, u3.2.2.2, p0_machine_stack, p0_machine_depth, p0_machine_starts, p0_machine_lengths, p0_machine_blocks, p0_others_count, p0_others_letters, p0_others_lengths, p0_others_bytes))
  else
  bd (f_X3_readMemory N (x1 + (4 : Int32)) (x1 + i4) u3.2.1 u3.2.2.1 p0_story_ram p1_bytes u3.2.2.2 p0_machine_memory) fun u6 =>
  if u6.1 = 0 then (
  some ((0 : Int32), u6.2.1, u6.2.2.1, p0_sawHead, (1 : Int32), p0_sawStack, p0_sawBlocks, u6.2.2.2, u3.2.2.2, p0_machine_stack, p0_machine_depth, p0_machine_starts, p0_machine_lengths, p0_machine_blocks, p0_others_count, p0_others_letters, p0_others_lengths, p0_others_bytes))
  else
  some ((1 : Int32), u6.2.1, u6.2.2.1, p0_sawHead, (1 : Int32), p0_sawStack, p0_sawBlocks, u6.2.2.2, u3.2.2.2, p0_machine_stack, p0_machine_depth, p0_machine_starts, p0_machine_lengths, p0_machine_blocks, p0_others_count, p0_others_letters, p0_others_lengths, p0_others_bytes))
  else if i2 = (1229351012 : Int32) then (
  bd (f_X3_readHead N x1 p1_bytes p0_fault p0_place p0_story_original) fun u10 =>
  gbo u10.1 <|
  some (u10.1, u10.2.1, u10.2.2, (1 : Int32), p0_sawMemory, p0_sawStack, p0_sawBlocks, p0_machine_memory, p0_machine_size, p0_machine_stack, p0_machine_depth, p0_machine_starts, p0_machine_lengths, p0_machine_blocks, p0_others_count, p0_others_letters, p0_others_lengths, p0_others_bytes))
  else if i2 = (1296133228 : Int32) then (
  bd (f_X3_readBlocks N x1 ((i4 - (4 : Int32)) / (8 : Int32)) p1_bytes p0_fault p0_place p0_story_end p0_machine_size p0_machine_blocks p0_machine_starts p0_machine_lengths) fun u14 =>
  gbo u14.1 <|
  some (u14.1, u14.2.1, u14.2.2.1, p0_sawHead, p0_sawMemory, p0_sawStack, (1 : Int32), p0_machine_memory, p0_machine_size, p0_machine_stack, p0_machine_depth, u14.2.2.2.1, u14.2.2.2.2.1, u14.2.2.2.2.2, p0_others_count, p0_others_letters, p0_others_lengths, p0_others_bytes))
  else if i2 = (1400138611 : Int32) then (
  bd (f_X3_readStack N x1 (i4 / (4 : Int32)) p1_bytes p0_machine_depth p0_machine_stack) fun u18 =>
  gbo u18.1 <|
  some (u18.1, p0_fault, p0_place, p0_sawHead, p0_sawMemory, (1 : Int32), p0_sawBlocks, p0_machine_memory, p0_machine_size, u18.2.1, u18.2.2, p0_machine_starts, p0_machine_lengths, p0_machine_blocks, p0_others_count, p0_others_letters, p0_others_lengths, p0_others_bytes))
  else 
  bd (f_X2_addFrom N i3 i4 p0_others_count p1_bytes p0_others_letters p0_others_lengths p0_others_bytes) fun u21 =>
  some ((1 : Int32), p0_fault, p0_place, p0_sawHead, p0_sawMemory, p0_sawStack, p0_sawBlocks, p0_machine_memory, p0_machine_size, p0_machine_stack, p0_machine_depth, p0_machine_starts, p0_machine_lengths, p0_machine_blocks, u21.1, u21.2.1, u21.2.2.1, u21.2.2.2)
abbrev w_rm_X3_readInside : Room := { frames := 3, cells := 0, slots := 0, locals := 72 }
set_option maxHeartbeats 4000000 in
set_option maxRecDepth 100000 in
theorem c_X3_readInside (l : Launch) (G : va_G) (E : ClassId × ClassId × ClassId) (N : Nat) (hp0 : Nat) (hp0_story : Nat) (hp0_machine : Nat) (hp0_others : Nat) (p0_fault : Int32) (p0_place : Int32) (p0_next : Int32) (p0_sawHead : Int32) (p0_sawMemory : Int32) (p0_sawStack : Int32) (p0_sawBlocks : Int32) (hp1 : Nat) (hp1_bytes : Nat) (p1_size : Int32) (p1_overflowed : Int32) (p1_bytes : (Nat → Int32)) (p0_story_ram : Int32) (p0_story_end : Int32) (hp0_story_original : Nat) (hp0_machine_memory : Nat) (p0_machine_size : Int32) (hp0_machine_stack : Nat) (p0_machine_depth : Int32) (hp0_machine_starts : Nat) (hp0_machine_lengths : Nat) (p0_machine_blocks : Int32) (p0_machine_memory : (Nat → Int32)) (p0_story_original : (Nat → Int32)) (p0_machine_starts : (Nat → Int32)) (p0_machine_lengths : (Nat → Int32)) (p0_machine_stack : (Nat → Int32)) (p0_others_count : Int32) (hp0_others_letters : Nat) (hp0_others_lengths : Nat) (hp0_others_bytes : Nat) (p0_others_letters : (Nat → Int32)) (p0_others_lengths : (Nat → Int32)) (p0_others_bytes : (Nat → Int32)) (i2 : Int32) (i3 : Int32) (i4 : Int32) (r : Int32) (o0 : Int32) (o1 : Int32) (o2 : Int32) (o3 : Int32) (o4 : Int32) (o5 : Int32) (o6 : (Nat → Int32)) (o7 : Int32) (o8 : (Nat → Int32)) (o9 : Int32) (o10 : (Nat → Int32)) (o11 : (Nat → Int32)) (o12 : Int32) (o13 : Int32) (o14 : (Nat → Int32)) (o15 : (Nat → Int32)) (o16 : (Nat → Int32)) (h : f_X3_readInside N i2 i3 i4 p0_fault p0_place p0_sawHead p0_sawMemory p0_sawStack p0_sawBlocks p1_bytes p0_story_ram p0_story_end p0_machine_size p0_machine_depth p0_machine_blocks p0_machine_memory p0_story_original p0_machine_starts p0_machine_lengths p0_machine_stack p0_others_count p0_others_letters p0_others_lengths p0_others_bytes = some (r, o0, o1, o2, o3, o4, o5, o6, o7, o8, o9, o10, o11, o12, o13, o14, o15, o16)) : MI l G E yX3_readInside cX3_readInside 6 .boolean w_rm_X3_readInside [.ref hp0, .ref hp1, .int i2, .int i3, .int i4] [(hp0, .inr (3, [.ref hp0_story, .ref hp0_machine, .ref hp0_others, .int p0_fault, .int p0_place, .int p0_next, .int p0_sawHead, .int p0_sawMemory, .int p0_sawStack, .int p0_sawBlocks])), (hp1, .inr (0, [.ref hp1_bytes, .int p1_size, .int p1_overflowed])), (hp1_bytes, .inl (E.1, 1200, .inl p1_bytes)), (hp0_story, .inr (4, [.int p0_story_ram, .int p0_story_end, .ref hp0_story_original])), (hp0_machine, .inr (1, [.ref hp0_machine_memory, .int p0_machine_size, .ref hp0_machine_stack, .int p0_machine_depth, .ref hp0_machine_starts, .ref hp0_machine_lengths, .int p0_machine_blocks])), (hp0_machine_memory, .inl (E.1, 512, .inl p0_machine_memory)), (hp0_story_original, .inl (E.1, 512, .inl p0_story_original)), (hp0_machine_starts, .inl (E.1, 8, .inl p0_machine_starts)), (hp0_machine_lengths, .inl (E.1, 8, .inl p0_machine_lengths)), (hp0_machine_stack, .inl (E.1, 40, .inl p0_machine_stack)), (hp0_others, .inr (2, [.int p0_others_count, .ref hp0_others_letters, .ref hp0_others_lengths, .ref hp0_others_bytes])), (hp0_others_letters, .inl (E.1, 4, .inl p0_others_letters)), (hp0_others_lengths, .inl (E.1, 4, .inl p0_others_lengths)), (hp0_others_bytes, .inl (E.1, 240, .inl p0_others_bytes))] r (fun a => [(hp0, .inr (3, [.ref hp0_story, .ref hp0_machine, .ref hp0_others, .int o0, .int o1, .int p0_next, .int o2, .int o3, .int o4, .int o5])), (hp1, .inr (0, [.ref hp1_bytes, .int p1_size, .int p1_overflowed])), (hp1_bytes, .inl (E.1, 1200, .inl p1_bytes)), (hp0_story, .inr (4, [.int p0_story_ram, .int p0_story_end, .ref hp0_story_original])), (hp0_machine, .inr (1, [.ref hp0_machine_memory, .int o7, .ref hp0_machine_stack, .int o9, .ref hp0_machine_starts, .ref hp0_machine_lengths, .int o12])), (hp0_machine_memory, .inl (E.1, 512, .inl o6)), (hp0_story_original, .inl (E.1, 512, .inl p0_story_original)), (hp0_machine_starts, .inl (E.1, 8, .inl o10)), (hp0_machine_lengths, .inl (E.1, 8, .inl o11)), (hp0_machine_stack, .inl (E.1, 40, .inl o8)), (hp0_others, .inr (2, [.int o13, .ref hp0_others_letters, .ref hp0_others_lengths, .ref hp0_others_bytes])), (hp0_others_letters, .inl (E.1, 4, .inl o14)), (hp0_others_lengths, .inl (E.1, 4, .inl o15)), (hp0_others_bytes, .inl (E.1, 240, .inl o16))]) 0 0 := by
  refine MI_of (by decide) (Nat.le_of_ble_eq_true rfl) ?_
  intro p e s m args below meth c A Q hx hb hml hown hts hK hA hP hD hS ret ls hl
  replace hl : lv_has ls 6 [(0, .ref hp0), (1, .ref hp1), (2, .int i2), (3, .int i3), (4, .int i4)] := hl
  unfold f_X3_readInside at h
  refine lv_iload_n hx hb dX3_readInside_0 rfl (lv_at hl 3 rfl) ?_
  refine lv_bipush (v := 8) hx hb dX3_readInside_1 (by decide) ?_
  refine lv_iadd hx hb dX3_readInside_3 ?_
  refine lv_topi (fun x1 ex1 => ?_)
  replace h := bn_t h ex1
  refine lv_istore (lv' := [(5, .int x1), (0, .ref hp0), (1, .ref hp1), (2, .int i2), (3, .int i3), (4, .int i4)]) hx hb dX3_readInside_4 hl (by decide) rfl (fun ls hl => ?_)
  refine lv_iload_n hx hb dX3_readInside_6 rfl (lv_at hl 3 rfl) ?_
  by_cases s2 : i2 = (1129145709 : Int32)
  · replace h := if_t h s2
    refine lv_lookup (off := 54) (tgt := 61) hx hb dX3_readInside_7 (by decide) (by rw [s2]; decide) (by decide) ?_
    refine lv_aload_n hx hb dX3_readInside_61 rfl (lv_at hl 1 rfl) ?_
    refine lv_iconst (v := 1) hx hb dX3_readInside_62 (by decide) ?_
    refine putF (D := G) (ci := 3) (v := .int (1 : Int32)) (ty := .boolean) (C := RX3) (T := TX3) (N := 10) hx hb hts inG_X3 tyX3 tyX3_ok nmX3 hown hK.1 hP hD hS 0 rfl rfl 7 (by decide) tf_X3_7 (hts _ wd_fb0e5dcc) pd_Z rfl rfl (Nat.le_of_ble_eq_true rfl) dX3_readInside_63 (fun H locs hP hD hS => ?_)
    have hP : va_P G vwCl [(hp0, .inr (3, [.ref hp0_story, .ref hp0_machine, .ref hp0_others, .int p0_fault, .int p0_place, .int p0_next, .int p0_sawHead, .int (1 : Int32), .int p0_sawStack, .int p0_sawBlocks])), (hp1, .inr (0, [.ref hp1_bytes, .int p1_size, .int p1_overflowed])), (hp1_bytes, .inl (E.1, 1200, .inl p1_bytes)), (hp0_story, .inr (4, [.int p0_story_ram, .int p0_story_end, .ref hp0_story_original])), (hp0_machine, .inr (1, [.ref hp0_machine_memory, .int p0_machine_size, .ref hp0_machine_stack, .int p0_machine_depth, .ref hp0_machine_starts, .ref hp0_machine_lengths, .int p0_machine_blocks])), (hp0_machine_memory, .inl (E.1, 512, .inl p0_machine_memory)), (hp0_story_original, .inl (E.1, 512, .inl p0_story_original)), (hp0_machine_starts, .inl (E.1, 8, .inl p0_machine_starts)), (hp0_machine_lengths, .inl (E.1, 8, .inl p0_machine_lengths)), (hp0_machine_stack, .inl (E.1, 40, .inl p0_machine_stack)), (hp0_others, .inr (2, [.int p0_others_count, .ref hp0_others_letters, .ref hp0_others_lengths, .ref hp0_others_bytes])), (hp0_others_letters, .inl (E.1, 4, .inl p0_others_letters)), (hp0_others_lengths, .inl (E.1, 4, .inl p0_others_lengths)), (hp0_others_bytes, .inl (E.1, 240, .inl p0_others_bytes))] H := hP
    have hD : va_D A [(hp0, .inr (3, [.ref hp0_story, .ref hp0_machine, .ref hp0_others, .int p0_fault, .int p0_place, .int p0_next, .int p0_sawHead, .int (1 : Int32), .int p0_sawStack, .int p0_sawBlocks])), (hp1, .inr (0, [.ref hp1_bytes, .int p1_size, .int p1_overflowed])), (hp1_bytes, .inl (E.1, 1200, .inl p1_bytes)), (hp0_story, .inr (4, [.int p0_story_ram, .int p0_story_end, .ref hp0_story_original])), (hp0_machine, .inr (1, [.ref hp0_machine_memory, .int p0_machine_size, .ref hp0_machine_stack, .int p0_machine_depth, .ref hp0_machine_starts, .ref hp0_machine_lengths, .int p0_machine_blocks])), (hp0_machine_memory, .inl (E.1, 512, .inl p0_machine_memory)), (hp0_story_original, .inl (E.1, 512, .inl p0_story_original)), (hp0_machine_starts, .inl (E.1, 8, .inl p0_machine_starts)), (hp0_machine_lengths, .inl (E.1, 8, .inl p0_machine_lengths)), (hp0_machine_stack, .inl (E.1, 40, .inl p0_machine_stack)), (hp0_others, .inr (2, [.int p0_others_count, .ref hp0_others_letters, .ref hp0_others_lengths, .ref hp0_others_bytes])), (hp0_others_letters, .inl (E.1, 4, .inl p0_others_letters)), (hp0_others_lengths, .inl (E.1, 4, .inl p0_others_lengths)), (hp0_others_bytes, .inl (E.1, 240, .inl p0_others_bytes))] := hD
    refine lv_aload_n hx hb dX3_readInside_66 rfl (lv_at hl 1 rfl) ?_
    refine lv_aload_n hx hb dX3_readInside_67 rfl (lv_at hl 2 rfl) ?_
    refine lv_iload hx hb dX3_readInside_68 (lv_at hl 0 rfl) ?_
    obtain ⟨u3, hu3, h⟩ := bd_t h
    refine cVi (wr := [(hp0_machine_memory, .inl (E.1, 512, .inl p0_machine_memory)), (hp0_story_original, .inl (E.1, 512, .inl p0_story_original)), (hp0_machine_starts, .inl (E.1, 8, .inl p0_machine_starts)), (hp0_machine_lengths, .inl (E.1, 8, .inl p0_machine_lengths)), (hp0_machine_stack, .inl (E.1, 40, .inl p0_machine_stack)), (hp0_others, .inr (2, [.int p0_others_count, .ref hp0_others_letters, .ref hp0_others_lengths, .ref hp0_others_bytes])), (hp0_others_letters, .inl (E.1, 4, .inl p0_others_letters)), (hp0_others_lengths, .inl (E.1, 4, .inl p0_others_lengths)), (hp0_others_bytes, .inl (E.1, 240, .inl p0_others_bytes))]) (As := [.ref hp1, .int x1]) (rest := []) ⟨hx, hb, hml, hown, hts⟩ (c_X3_readSize l G E hp1 hp1_bytes p1_size p1_overflowed p1_bytes hp0 hp0_story hp0_machine hp0_others p0_fault p0_place p0_next p0_sawHead (1 : Int32) p0_sawStack p0_sawBlocks p0_story_ram p0_story_end hp0_story_original hp0_machine_memory p0_machine_size hp0_machine_stack p0_machine_depth hp0_machine_starts hp0_machine_lengths p0_machine_blocks x1 u3.1 u3.2.1 u3.2.2.1 u3.2.2.2 hu3) ok_X3_readSize okv_X3_readSize wd_e4fa6b86 ⟨Nat.le_of_ble_eq_true rfl, Nat.le_of_ble_eq_true rfl⟩ hK hP hD hS hA [1, 2, 0, 3, 4] [5, 6, 7, 8, 9, 10, 11, 12, 13] rfl rfl (by decide) (by decide) (by decide) (va_recv hK.1 hP (ci := 3) (q0 := 0) rfl rfl) rfl hl.1 rfl (Nat.le_of_ble_eq_true rfl) dX3_readInside_70 ⟨Nat.le_of_ble_eq_true rfl, Nat.le_of_ble_eq_true rfl⟩ (fun H locs a4 hP hD hS => ?_)
    have hP : va_P G vwCl [(hp0_machine_memory, .inl (E.1, 512, .inl p0_machine_memory)), (hp0_story_original, .inl (E.1, 512, .inl p0_story_original)), (hp0_machine_starts, .inl (E.1, 8, .inl p0_machine_starts)), (hp0_machine_lengths, .inl (E.1, 8, .inl p0_machine_lengths)), (hp0_machine_stack, .inl (E.1, 40, .inl p0_machine_stack)), (hp0_others, .inr (2, [.int p0_others_count, .ref hp0_others_letters, .ref hp0_others_lengths, .ref hp0_others_bytes])), (hp0_others_letters, .inl (E.1, 4, .inl p0_others_letters)), (hp0_others_lengths, .inl (E.1, 4, .inl p0_others_lengths)), (hp0_others_bytes, .inl (E.1, 240, .inl p0_others_bytes)), (hp1, .inr (0, [.ref hp1_bytes, .int p1_size, .int p1_overflowed])), (hp1_bytes, .inl (E.1, 1200, .inl p1_bytes)), (hp0, .inr (3, [.ref hp0_story, .ref hp0_machine, .ref hp0_others, .int u3.2.1, .int u3.2.2.1, .int p0_next, .int p0_sawHead, .int (1 : Int32), .int p0_sawStack, .int p0_sawBlocks])), (hp0_story, .inr (4, [.int p0_story_ram, .int p0_story_end, .ref hp0_story_original])), (hp0_machine, .inr (1, [.ref hp0_machine_memory, .int u3.2.2.2, .ref hp0_machine_stack, .int p0_machine_depth, .ref hp0_machine_starts, .ref hp0_machine_lengths, .int p0_machine_blocks]))] H := hP
    have hD : va_D A [(hp0_machine_memory, .inl (E.1, 512, .inl p0_machine_memory)), (hp0_story_original, .inl (E.1, 512, .inl p0_story_original)), (hp0_machine_starts, .inl (E.1, 8, .inl p0_machine_starts)), (hp0_machine_lengths, .inl (E.1, 8, .inl p0_machine_lengths)), (hp0_machine_stack, .inl (E.1, 40, .inl p0_machine_stack)), (hp0_others, .inr (2, [.int p0_others_count, .ref hp0_others_letters, .ref hp0_others_lengths, .ref hp0_others_bytes])), (hp0_others_letters, .inl (E.1, 4, .inl p0_others_letters)), (hp0_others_lengths, .inl (E.1, 4, .inl p0_others_lengths)), (hp0_others_bytes, .inl (E.1, 240, .inl p0_others_bytes)), (hp1, .inr (0, [.ref hp1_bytes, .int p1_size, .int p1_overflowed])), (hp1_bytes, .inl (E.1, 1200, .inl p1_bytes)), (hp0, .inr (3, [.ref hp0_story, .ref hp0_machine, .ref hp0_others, .int u3.2.1, .int u3.2.2.1, .int p0_next, .int p0_sawHead, .int (1 : Int32), .int p0_sawStack, .int p0_sawBlocks])), (hp0_story, .inr (4, [.int p0_story_ram, .int p0_story_end, .ref hp0_story_original])), (hp0_machine, .inr (1, [.ref hp0_machine_memory, .int u3.2.2.2, .ref hp0_machine_stack, .int p0_machine_depth, .ref hp0_machine_starts, .ref hp0_machine_lengths, .int p0_machine_blocks]))] := hD
    refine lv_if_eq (tgt := 97) hx hb dX3_readInside_73 (by decide) (fun c5 => ?_) (fun c5 => ?_)
    · replace h := if_t h c5
      refine lv_iconst (v := 0) hx hb dX3_readInside_97 (by decide) ?_
      cases h
      exact ret _ _ _ _ _ (fun _ => 0) rfl rfl (hP.sub [11, 9, 10, 12, 13, 0, 1, 2, 3, 4, 5, 6, 7, 8] rfl) (hD.sub [11, 9, 10, 12, 13, 0, 1, 2, 3, 4, 5, 6, 7, 8] (by decide) rfl) hS dX3_readInside_98
    · replace h := if_f h c5
      refine lv_aload_n hx hb dX3_readInside_76 rfl (lv_at hl 1 rfl) ?_
      refine lv_aload_n hx hb dX3_readInside_77 rfl (lv_at hl 2 rfl) ?_
      refine lv_iload hx hb dX3_readInside_78 (lv_at hl 0 rfl) ?_
      refine lv_iconst (v := 4) hx hb dX3_readInside_80 (by decide) ?_
      refine lv_iadd hx hb dX3_readInside_81 ?_
      refine lv_iload hx hb dX3_readInside_82 (lv_at hl 0 rfl) ?_
      refine lv_iload hx hb dX3_readInside_84 (lv_at hl 5 rfl) ?_
      refine lv_iadd hx hb dX3_readInside_86 ?_
      obtain ⟨u6, hu6, h⟩ := bd_t h
      refine cVi (wr := [(hp0_story_original, .inl (E.1, 512, .inl p0_story_original)), (hp0_machine_starts, .inl (E.1, 8, .inl p0_machine_starts)), (hp0_machine_lengths, .inl (E.1, 8, .inl p0_machine_lengths)), (hp0_machine_stack, .inl (E.1, 40, .inl p0_machine_stack)), (hp0_others, .inr (2, [.int p0_others_count, .ref hp0_others_letters, .ref hp0_others_lengths, .ref hp0_others_bytes])), (hp0_others_letters, .inl (E.1, 4, .inl p0_others_letters)), (hp0_others_lengths, .inl (E.1, 4, .inl p0_others_lengths)), (hp0_others_bytes, .inl (E.1, 240, .inl p0_others_bytes))]) (As := [.ref hp1, .int (x1 + (4 : Int32)), .int (x1 + i4)]) (rest := []) ⟨hx, hb, hml, hown, hts⟩ (c_X3_readMemory l G E N hp0 hp0_story hp0_machine hp0_others u3.2.1 u3.2.2.1 p0_next p0_sawHead (1 : Int32) p0_sawStack p0_sawBlocks p0_story_ram p0_story_end hp0_story_original hp1 hp1_bytes p1_size p1_overflowed p1_bytes hp0_machine_memory u3.2.2.2 hp0_machine_stack p0_machine_depth hp0_machine_starts hp0_machine_lengths p0_machine_blocks p0_machine_memory (x1 + (4 : Int32)) (x1 + i4) u6.1 u6.2.1 u6.2.2.1 u6.2.2.2 hu6) ok_X3_readMemory okv_X3_readMemory wd_897305f2 ⟨Nat.le_of_ble_eq_true rfl, Nat.le_of_ble_eq_true rfl⟩ hK hP hD hS hA [11, 12, 9, 10, 13, 0] [1, 2, 3, 4, 5, 6, 7, 8] rfl rfl (by decide) (by decide) (by decide) (va_recv hK.1 hP (ci := 3) (q0 := 11) rfl rfl) rfl hl.1 rfl (Nat.le_of_ble_eq_true rfl) dX3_readInside_87 ⟨Nat.le_of_ble_eq_true rfl, Nat.le_of_ble_eq_true rfl⟩ (fun H locs a7 hP hD hS => ?_)
      have hP : va_P G vwCl [(hp0_story_original, .inl (E.1, 512, .inl p0_story_original)), (hp0_machine_starts, .inl (E.1, 8, .inl p0_machine_starts)), (hp0_machine_lengths, .inl (E.1, 8, .inl p0_machine_lengths)), (hp0_machine_stack, .inl (E.1, 40, .inl p0_machine_stack)), (hp0_others, .inr (2, [.int p0_others_count, .ref hp0_others_letters, .ref hp0_others_lengths, .ref hp0_others_bytes])), (hp0_others_letters, .inl (E.1, 4, .inl p0_others_letters)), (hp0_others_lengths, .inl (E.1, 4, .inl p0_others_lengths)), (hp0_others_bytes, .inl (E.1, 240, .inl p0_others_bytes)), (hp0, .inr (3, [.ref hp0_story, .ref hp0_machine, .ref hp0_others, .int u6.2.1, .int u6.2.2.1, .int p0_next, .int p0_sawHead, .int (1 : Int32), .int p0_sawStack, .int p0_sawBlocks])), (hp0_story, .inr (4, [.int p0_story_ram, .int p0_story_end, .ref hp0_story_original])), (hp1, .inr (0, [.ref hp1_bytes, .int p1_size, .int p1_overflowed])), (hp1_bytes, .inl (E.1, 1200, .inl p1_bytes)), (hp0_machine, .inr (1, [.ref hp0_machine_memory, .int u3.2.2.2, .ref hp0_machine_stack, .int p0_machine_depth, .ref hp0_machine_starts, .ref hp0_machine_lengths, .int p0_machine_blocks])), (hp0_machine_memory, .inl (E.1, 512, .inl u6.2.2.2))] H := hP
      have hD : va_D A [(hp0_story_original, .inl (E.1, 512, .inl p0_story_original)), (hp0_machine_starts, .inl (E.1, 8, .inl p0_machine_starts)), (hp0_machine_lengths, .inl (E.1, 8, .inl p0_machine_lengths)), (hp0_machine_stack, .inl (E.1, 40, .inl p0_machine_stack)), (hp0_others, .inr (2, [.int p0_others_count, .ref hp0_others_letters, .ref hp0_others_lengths, .ref hp0_others_bytes])), (hp0_others_letters, .inl (E.1, 4, .inl p0_others_letters)), (hp0_others_lengths, .inl (E.1, 4, .inl p0_others_lengths)), (hp0_others_bytes, .inl (E.1, 240, .inl p0_others_bytes)), (hp0, .inr (3, [.ref hp0_story, .ref hp0_machine, .ref hp0_others, .int u6.2.1, .int u6.2.2.1, .int p0_next, .int p0_sawHead, .int (1 : Int32), .int p0_sawStack, .int p0_sawBlocks])), (hp0_story, .inr (4, [.int p0_story_ram, .int p0_story_end, .ref hp0_story_original])), (hp1, .inr (0, [.ref hp1_bytes, .int p1_size, .int p1_overflowed])), (hp1_bytes, .inl (E.1, 1200, .inl p1_bytes)), (hp0_machine, .inr (1, [.ref hp0_machine_memory, .int u3.2.2.2, .ref hp0_machine_stack, .int p0_machine_depth, .ref hp0_machine_starts, .ref hp0_machine_lengths, .int p0_machine_blocks])), (hp0_machine_memory, .inl (E.1, 512, .inl u6.2.2.2))] := hD
      refine lv_if_eq (tgt := 97) hx hb dX3_readInside_90 (by decide) (fun c8 => ?_) (fun c8 => ?_)
      · replace h := if_t h c8
        refine lv_iconst (v := 0) hx hb dX3_readInside_97 (by decide) ?_
        cases h
        exact ret _ _ _ _ _ (fun _ => 0) rfl rfl (hP.sub [8, 10, 11, 9, 12, 13, 0, 1, 2, 3, 4, 5, 6, 7] rfl) (hD.sub [8, 10, 11, 9, 12, 13, 0, 1, 2, 3, 4, 5, 6, 7] (by decide) rfl) hS dX3_readInside_98
      · replace h := if_f h c8
        refine lv_iconst (v := 1) hx hb dX3_readInside_93 (by decide) ?_
        refine lv_goto (tgt := 98) hx hb dX3_readInside_94 (by decide) ?_
        cases h
        exact ret _ _ _ _ _ (fun _ => 0) rfl rfl (hP.sub [8, 10, 11, 9, 12, 13, 0, 1, 2, 3, 4, 5, 6, 7] rfl) (hD.sub [8, 10, 11, 9, 12, 13, 0, 1, 2, 3, 4, 5, 6, 7] (by decide) rfl) hS dX3_readInside_98
  · replace h := if_f h s2
    by_cases s9 : i2 = (1229351012 : Int32)
    · replace h := if_t h s9
      refine lv_lookup (off := 41) (tgt := 48) hx hb dX3_readInside_7 (by decide) (by rw [s9]; decide) (by decide) ?_
      refine lv_aload_n hx hb dX3_readInside_48 rfl (lv_at hl 1 rfl) ?_
      refine lv_iconst (v := 1) hx hb dX3_readInside_49 (by decide) ?_
      refine putF (D := G) (ci := 3) (v := .int (1 : Int32)) (ty := .boolean) (C := RX3) (T := TX3) (N := 10) hx hb hts inG_X3 tyX3 tyX3_ok nmX3 hown hK.1 hP hD hS 0 rfl rfl 6 (by decide) tf_X3_6 (hts _ wd_3f712f62) pd_Z rfl rfl (Nat.le_of_ble_eq_true rfl) dX3_readInside_50 (fun H locs hP hD hS => ?_)
      have hP : va_P G vwCl [(hp0, .inr (3, [.ref hp0_story, .ref hp0_machine, .ref hp0_others, .int p0_fault, .int p0_place, .int p0_next, .int (1 : Int32), .int p0_sawMemory, .int p0_sawStack, .int p0_sawBlocks])), (hp1, .inr (0, [.ref hp1_bytes, .int p1_size, .int p1_overflowed])), (hp1_bytes, .inl (E.1, 1200, .inl p1_bytes)), (hp0_story, .inr (4, [.int p0_story_ram, .int p0_story_end, .ref hp0_story_original])), (hp0_machine, .inr (1, [.ref hp0_machine_memory, .int p0_machine_size, .ref hp0_machine_stack, .int p0_machine_depth, .ref hp0_machine_starts, .ref hp0_machine_lengths, .int p0_machine_blocks])), (hp0_machine_memory, .inl (E.1, 512, .inl p0_machine_memory)), (hp0_story_original, .inl (E.1, 512, .inl p0_story_original)), (hp0_machine_starts, .inl (E.1, 8, .inl p0_machine_starts)), (hp0_machine_lengths, .inl (E.1, 8, .inl p0_machine_lengths)), (hp0_machine_stack, .inl (E.1, 40, .inl p0_machine_stack)), (hp0_others, .inr (2, [.int p0_others_count, .ref hp0_others_letters, .ref hp0_others_lengths, .ref hp0_others_bytes])), (hp0_others_letters, .inl (E.1, 4, .inl p0_others_letters)), (hp0_others_lengths, .inl (E.1, 4, .inl p0_others_lengths)), (hp0_others_bytes, .inl (E.1, 240, .inl p0_others_bytes))] H := hP
      have hD : va_D A [(hp0, .inr (3, [.ref hp0_story, .ref hp0_machine, .ref hp0_others, .int p0_fault, .int p0_place, .int p0_next, .int (1 : Int32), .int p0_sawMemory, .int p0_sawStack, .int p0_sawBlocks])), (hp1, .inr (0, [.ref hp1_bytes, .int p1_size, .int p1_overflowed])), (hp1_bytes, .inl (E.1, 1200, .inl p1_bytes)), (hp0_story, .inr (4, [.int p0_story_ram, .int p0_story_end, .ref hp0_story_original])), (hp0_machine, .inr (1, [.ref hp0_machine_memory, .int p0_machine_size, .ref hp0_machine_stack, .int p0_machine_depth, .ref hp0_machine_starts, .ref hp0_machine_lengths, .int p0_machine_blocks])), (hp0_machine_memory, .inl (E.1, 512, .inl p0_machine_memory)), (hp0_story_original, .inl (E.1, 512, .inl p0_story_original)), (hp0_machine_starts, .inl (E.1, 8, .inl p0_machine_starts)), (hp0_machine_lengths, .inl (E.1, 8, .inl p0_machine_lengths)), (hp0_machine_stack, .inl (E.1, 40, .inl p0_machine_stack)), (hp0_others, .inr (2, [.int p0_others_count, .ref hp0_others_letters, .ref hp0_others_lengths, .ref hp0_others_bytes])), (hp0_others_letters, .inl (E.1, 4, .inl p0_others_letters)), (hp0_others_lengths, .inl (E.1, 4, .inl p0_others_lengths)), (hp0_others_bytes, .inl (E.1, 240, .inl p0_others_bytes))] := hD
      refine lv_aload_n hx hb dX3_readInside_53 rfl (lv_at hl 1 rfl) ?_
      refine lv_aload_n hx hb dX3_readInside_54 rfl (lv_at hl 2 rfl) ?_
      refine lv_iload hx hb dX3_readInside_55 (lv_at hl 0 rfl) ?_
      obtain ⟨u10, hu10, h⟩ := bd_t h
      refine cVi (wr := [(hp0_machine, .inr (1, [.ref hp0_machine_memory, .int p0_machine_size, .ref hp0_machine_stack, .int p0_machine_depth, .ref hp0_machine_starts, .ref hp0_machine_lengths, .int p0_machine_blocks])), (hp0_machine_memory, .inl (E.1, 512, .inl p0_machine_memory)), (hp0_machine_starts, .inl (E.1, 8, .inl p0_machine_starts)), (hp0_machine_lengths, .inl (E.1, 8, .inl p0_machine_lengths)), (hp0_machine_stack, .inl (E.1, 40, .inl p0_machine_stack)), (hp0_others, .inr (2, [.int p0_others_count, .ref hp0_others_letters, .ref hp0_others_lengths, .ref hp0_others_bytes])), (hp0_others_letters, .inl (E.1, 4, .inl p0_others_letters)), (hp0_others_lengths, .inl (E.1, 4, .inl p0_others_lengths)), (hp0_others_bytes, .inl (E.1, 240, .inl p0_others_bytes))]) (As := [.ref hp1, .int x1]) (rest := []) ⟨hx, hb, hml, hown, hts⟩ (c_X3_readHead l G E N hp1 hp1_bytes p1_size p1_overflowed p1_bytes hp0 hp0_story hp0_machine hp0_others p0_fault p0_place p0_next (1 : Int32) p0_sawMemory p0_sawStack p0_sawBlocks p0_story_ram p0_story_end hp0_story_original p0_story_original x1 u10.1 u10.2.1 u10.2.2 hu10) ok_X3_readHead okv_X3_readHead wd_f0fccc62 ⟨Nat.le_of_ble_eq_true rfl, Nat.le_of_ble_eq_true rfl⟩ hK hP hD hS hA [1, 2, 0, 3, 6] [4, 5, 7, 8, 9, 10, 11, 12, 13] rfl rfl (by decide) (by decide) (by decide) (va_recv hK.1 hP (ci := 3) (q0 := 0) rfl rfl) rfl hl.1 rfl (Nat.le_of_ble_eq_true rfl) dX3_readInside_57 ⟨Nat.le_of_ble_eq_true rfl, Nat.le_of_ble_eq_true rfl⟩ (fun H locs a11 hP hD hS => ?_)
      have hP : va_P G vwCl [(hp0_machine, .inr (1, [.ref hp0_machine_memory, .int p0_machine_size, .ref hp0_machine_stack, .int p0_machine_depth, .ref hp0_machine_starts, .ref hp0_machine_lengths, .int p0_machine_blocks])), (hp0_machine_memory, .inl (E.1, 512, .inl p0_machine_memory)), (hp0_machine_starts, .inl (E.1, 8, .inl p0_machine_starts)), (hp0_machine_lengths, .inl (E.1, 8, .inl p0_machine_lengths)), (hp0_machine_stack, .inl (E.1, 40, .inl p0_machine_stack)), (hp0_others, .inr (2, [.int p0_others_count, .ref hp0_others_letters, .ref hp0_others_lengths, .ref hp0_others_bytes])), (hp0_others_letters, .inl (E.1, 4, .inl p0_others_letters)), (hp0_others_lengths, .inl (E.1, 4, .inl p0_others_lengths)), (hp0_others_bytes, .inl (E.1, 240, .inl p0_others_bytes)), (hp1, .inr (0, [.ref hp1_bytes, .int p1_size, .int p1_overflowed])), (hp1_bytes, .inl (E.1, 1200, .inl p1_bytes)), (hp0, .inr (3, [.ref hp0_story, .ref hp0_machine, .ref hp0_others, .int u10.2.1, .int u10.2.2, .int p0_next, .int (1 : Int32), .int p0_sawMemory, .int p0_sawStack, .int p0_sawBlocks])), (hp0_story, .inr (4, [.int p0_story_ram, .int p0_story_end, .ref hp0_story_original])), (hp0_story_original, .inl (E.1, 512, .inl p0_story_original))] H := hP
      have hD : va_D A [(hp0_machine, .inr (1, [.ref hp0_machine_memory, .int p0_machine_size, .ref hp0_machine_stack, .int p0_machine_depth, .ref hp0_machine_starts, .ref hp0_machine_lengths, .int p0_machine_blocks])), (hp0_machine_memory, .inl (E.1, 512, .inl p0_machine_memory)), (hp0_machine_starts, .inl (E.1, 8, .inl p0_machine_starts)), (hp0_machine_lengths, .inl (E.1, 8, .inl p0_machine_lengths)), (hp0_machine_stack, .inl (E.1, 40, .inl p0_machine_stack)), (hp0_others, .inr (2, [.int p0_others_count, .ref hp0_others_letters, .ref hp0_others_lengths, .ref hp0_others_bytes])), (hp0_others_letters, .inl (E.1, 4, .inl p0_others_letters)), (hp0_others_lengths, .inl (E.1, 4, .inl p0_others_lengths)), (hp0_others_bytes, .inl (E.1, 240, .inl p0_others_bytes)), (hp1, .inr (0, [.ref hp1_bytes, .int p1_size, .int p1_overflowed])), (hp1_bytes, .inl (E.1, 1200, .inl p1_bytes)), (hp0, .inr (3, [.ref hp0_story, .ref hp0_machine, .ref hp0_others, .int u10.2.1, .int u10.2.2, .int p0_next, .int (1 : Int32), .int p0_sawMemory, .int p0_sawStack, .int p0_sawBlocks])), (hp0_story, .inr (4, [.int p0_story_ram, .int p0_story_end, .ref hp0_story_original])), (hp0_story_original, .inl (E.1, 512, .inl p0_story_original))] := hD
      obtain ⟨g12, h⟩ := gbo_t h
      cases h
      exact ret _ _ _ _ _ (fun _ => 0) rfl (bo_nar g12) (hP.sub [11, 9, 10, 12, 0, 1, 13, 2, 3, 4, 5, 6, 7, 8] rfl) (hD.sub [11, 9, 10, 12, 0, 1, 13, 2, 3, 4, 5, 6, 7, 8] (by decide) rfl) hS dX3_readInside_60
    · replace h := if_f h s9
      by_cases s13 : i2 = (1296133228 : Int32)
      · replace h := if_t h s13
        refine lv_lookup (off := 109) (tgt := 116) hx hb dX3_readInside_7 (by decide) (by rw [s13]; decide) (by decide) ?_
        refine lv_aload_n hx hb dX3_readInside_116 rfl (lv_at hl 1 rfl) ?_
        refine lv_iconst (v := 1) hx hb dX3_readInside_117 (by decide) ?_
        refine putF (D := G) (ci := 3) (v := .int (1 : Int32)) (ty := .boolean) (C := RX3) (T := TX3) (N := 10) hx hb hts inG_X3 tyX3 tyX3_ok nmX3 hown hK.1 hP hD hS 0 rfl rfl 9 (by decide) tf_X3_9 (hts _ wd_b606cdff) pd_Z rfl rfl (Nat.le_of_ble_eq_true rfl) dX3_readInside_118 (fun H locs hP hD hS => ?_)
        have hP : va_P G vwCl [(hp0, .inr (3, [.ref hp0_story, .ref hp0_machine, .ref hp0_others, .int p0_fault, .int p0_place, .int p0_next, .int p0_sawHead, .int p0_sawMemory, .int p0_sawStack, .int (1 : Int32)])), (hp1, .inr (0, [.ref hp1_bytes, .int p1_size, .int p1_overflowed])), (hp1_bytes, .inl (E.1, 1200, .inl p1_bytes)), (hp0_story, .inr (4, [.int p0_story_ram, .int p0_story_end, .ref hp0_story_original])), (hp0_machine, .inr (1, [.ref hp0_machine_memory, .int p0_machine_size, .ref hp0_machine_stack, .int p0_machine_depth, .ref hp0_machine_starts, .ref hp0_machine_lengths, .int p0_machine_blocks])), (hp0_machine_memory, .inl (E.1, 512, .inl p0_machine_memory)), (hp0_story_original, .inl (E.1, 512, .inl p0_story_original)), (hp0_machine_starts, .inl (E.1, 8, .inl p0_machine_starts)), (hp0_machine_lengths, .inl (E.1, 8, .inl p0_machine_lengths)), (hp0_machine_stack, .inl (E.1, 40, .inl p0_machine_stack)), (hp0_others, .inr (2, [.int p0_others_count, .ref hp0_others_letters, .ref hp0_others_lengths, .ref hp0_others_bytes])), (hp0_others_letters, .inl (E.1, 4, .inl p0_others_letters)), (hp0_others_lengths, .inl (E.1, 4, .inl p0_others_lengths)), (hp0_others_bytes, .inl (E.1, 240, .inl p0_others_bytes))] H := hP
        have hD : va_D A [(hp0, .inr (3, [.ref hp0_story, .ref hp0_machine, .ref hp0_others, .int p0_fault, .int p0_place, .int p0_next, .int p0_sawHead, .int p0_sawMemory, .int p0_sawStack, .int (1 : Int32)])), (hp1, .inr (0, [.ref hp1_bytes, .int p1_size, .int p1_overflowed])), (hp1_bytes, .inl (E.1, 1200, .inl p1_bytes)), (hp0_story, .inr (4, [.int p0_story_ram, .int p0_story_end, .ref hp0_story_original])), (hp0_machine, .inr (1, [.ref hp0_machine_memory, .int p0_machine_size, .ref hp0_machine_stack, .int p0_machine_depth, .ref hp0_machine_starts, .ref hp0_machine_lengths, .int p0_machine_blocks])), (hp0_machine_memory, .inl (E.1, 512, .inl p0_machine_memory)), (hp0_story_original, .inl (E.1, 512, .inl p0_story_original)), (hp0_machine_starts, .inl (E.1, 8, .inl p0_machine_starts)), (hp0_machine_lengths, .inl (E.1, 8, .inl p0_machine_lengths)), (hp0_machine_stack, .inl (E.1, 40, .inl p0_machine_stack)), (hp0_others, .inr (2, [.int p0_others_count, .ref hp0_others_letters, .ref hp0_others_lengths, .ref hp0_others_bytes])), (hp0_others_letters, .inl (E.1, 4, .inl p0_others_letters)), (hp0_others_lengths, .inl (E.1, 4, .inl p0_others_lengths)), (hp0_others_bytes, .inl (E.1, 240, .inl p0_others_bytes))] := hD
        refine lv_aload_n hx hb dX3_readInside_121 rfl (lv_at hl 1 rfl) ?_
        refine lv_aload_n hx hb dX3_readInside_122 rfl (lv_at hl 2 rfl) ?_
        refine lv_iload hx hb dX3_readInside_123 (lv_at hl 0 rfl) ?_
        refine lv_iload hx hb dX3_readInside_125 (lv_at hl 5 rfl) ?_
        refine lv_iconst (v := 4) hx hb dX3_readInside_127 (by decide) ?_
        refine lv_isub hx hb dX3_readInside_128 ?_
        refine lv_bipush (v := 8) hx hb dX3_readInside_129 (by decide) ?_
        refine lv_idiv hx hb dX3_readInside_131 (by decide) ?_
        obtain ⟨u14, hu14, h⟩ := bd_t h
        refine cVi (wr := [(hp0_machine_memory, .inl (E.1, 512, .inl p0_machine_memory)), (hp0_story_original, .inl (E.1, 512, .inl p0_story_original)), (hp0_machine_stack, .inl (E.1, 40, .inl p0_machine_stack)), (hp0_others, .inr (2, [.int p0_others_count, .ref hp0_others_letters, .ref hp0_others_lengths, .ref hp0_others_bytes])), (hp0_others_letters, .inl (E.1, 4, .inl p0_others_letters)), (hp0_others_lengths, .inl (E.1, 4, .inl p0_others_lengths)), (hp0_others_bytes, .inl (E.1, 240, .inl p0_others_bytes))]) (As := [.ref hp1, .int x1, .int ((i4 - (4 : Int32)) / (8 : Int32))]) (rest := []) ⟨hx, hb, hml, hown, hts⟩ (c_X3_readBlocks l G E N hp1 hp1_bytes p1_size p1_overflowed p1_bytes hp0 hp0_story hp0_machine hp0_others p0_fault p0_place p0_next p0_sawHead p0_sawMemory p0_sawStack (1 : Int32) p0_story_ram p0_story_end hp0_story_original hp0_machine_memory p0_machine_size hp0_machine_stack p0_machine_depth hp0_machine_starts hp0_machine_lengths p0_machine_blocks p0_machine_starts p0_machine_lengths x1 ((i4 - (4 : Int32)) / (8 : Int32)) u14.1 u14.2.1 u14.2.2.1 u14.2.2.2.1 u14.2.2.2.2.1 u14.2.2.2.2.2 hu14) ok_X3_readBlocks okv_X3_readBlocks wd_80e3c982 ⟨Nat.le_of_ble_eq_true rfl, Nat.le_of_ble_eq_true rfl⟩ hK hP hD hS hA [1, 2, 0, 3, 4, 7, 8] [5, 6, 9, 10, 11, 12, 13] rfl rfl (by decide) (by decide) (by decide) (va_recv hK.1 hP (ci := 3) (q0 := 0) rfl rfl) rfl hl.1 rfl (Nat.le_of_ble_eq_true rfl) dX3_readInside_132 ⟨Nat.le_of_ble_eq_true rfl, Nat.le_of_ble_eq_true rfl⟩ (fun H locs a15 hP hD hS => ?_)
        have hP : va_P G vwCl [(hp0_machine_memory, .inl (E.1, 512, .inl p0_machine_memory)), (hp0_story_original, .inl (E.1, 512, .inl p0_story_original)), (hp0_machine_stack, .inl (E.1, 40, .inl p0_machine_stack)), (hp0_others, .inr (2, [.int p0_others_count, .ref hp0_others_letters, .ref hp0_others_lengths, .ref hp0_others_bytes])), (hp0_others_letters, .inl (E.1, 4, .inl p0_others_letters)), (hp0_others_lengths, .inl (E.1, 4, .inl p0_others_lengths)), (hp0_others_bytes, .inl (E.1, 240, .inl p0_others_bytes)), (hp1, .inr (0, [.ref hp1_bytes, .int p1_size, .int p1_overflowed])), (hp1_bytes, .inl (E.1, 1200, .inl p1_bytes)), (hp0, .inr (3, [.ref hp0_story, .ref hp0_machine, .ref hp0_others, .int u14.2.1, .int u14.2.2.1, .int p0_next, .int p0_sawHead, .int p0_sawMemory, .int p0_sawStack, .int (1 : Int32)])), (hp0_story, .inr (4, [.int p0_story_ram, .int p0_story_end, .ref hp0_story_original])), (hp0_machine, .inr (1, [.ref hp0_machine_memory, .int p0_machine_size, .ref hp0_machine_stack, .int p0_machine_depth, .ref hp0_machine_starts, .ref hp0_machine_lengths, .int u14.2.2.2.2.2])), (hp0_machine_starts, .inl (E.1, 8, .inl u14.2.2.2.1)), (hp0_machine_lengths, .inl (E.1, 8, .inl u14.2.2.2.2.1))] H := hP
        have hD : va_D A [(hp0_machine_memory, .inl (E.1, 512, .inl p0_machine_memory)), (hp0_story_original, .inl (E.1, 512, .inl p0_story_original)), (hp0_machine_stack, .inl (E.1, 40, .inl p0_machine_stack)), (hp0_others, .inr (2, [.int p0_others_count, .ref hp0_others_letters, .ref hp0_others_lengths, .ref hp0_others_bytes])), (hp0_others_letters, .inl (E.1, 4, .inl p0_others_letters)), (hp0_others_lengths, .inl (E.1, 4, .inl p0_others_lengths)), (hp0_others_bytes, .inl (E.1, 240, .inl p0_others_bytes)), (hp1, .inr (0, [.ref hp1_bytes, .int p1_size, .int p1_overflowed])), (hp1_bytes, .inl (E.1, 1200, .inl p1_bytes)), (hp0, .inr (3, [.ref hp0_story, .ref hp0_machine, .ref hp0_others, .int u14.2.1, .int u14.2.2.1, .int p0_next, .int p0_sawHead, .int p0_sawMemory, .int p0_sawStack, .int (1 : Int32)])), (hp0_story, .inr (4, [.int p0_story_ram, .int p0_story_end, .ref hp0_story_original])), (hp0_machine, .inr (1, [.ref hp0_machine_memory, .int p0_machine_size, .ref hp0_machine_stack, .int p0_machine_depth, .ref hp0_machine_starts, .ref hp0_machine_lengths, .int u14.2.2.2.2.2])), (hp0_machine_starts, .inl (E.1, 8, .inl u14.2.2.2.1)), (hp0_machine_lengths, .inl (E.1, 8, .inl u14.2.2.2.2.1))] := hD
        obtain ⟨g16, h⟩ := gbo_t h
        cases h
        exact ret _ _ _ _ _ (fun _ => 0) rfl (bo_nar g16) (hP.sub [9, 7, 8, 10, 11, 0, 1, 12, 13, 2, 3, 4, 5, 6] rfl) (hD.sub [9, 7, 8, 10, 11, 0, 1, 12, 13, 2, 3, 4, 5, 6] (by decide) rfl) hS dX3_readInside_135
      · replace h := if_f h s13
        by_cases s17 : i2 = (1400138611 : Int32)
        · replace h := if_t h s17
          refine lv_lookup (off := 92) (tgt := 99) hx hb dX3_readInside_7 (by decide) (by rw [s17]; decide) (by decide) ?_
          refine lv_aload_n hx hb dX3_readInside_99 rfl (lv_at hl 1 rfl) ?_
          refine lv_iconst (v := 1) hx hb dX3_readInside_100 (by decide) ?_
          refine putF (D := G) (ci := 3) (v := .int (1 : Int32)) (ty := .boolean) (C := RX3) (T := TX3) (N := 10) hx hb hts inG_X3 tyX3 tyX3_ok nmX3 hown hK.1 hP hD hS 0 rfl rfl 8 (by decide) tf_X3_8 (hts _ wd_1456029b) pd_Z rfl rfl (Nat.le_of_ble_eq_true rfl) dX3_readInside_101 (fun H locs hP hD hS => ?_)
          have hP : va_P G vwCl [(hp0, .inr (3, [.ref hp0_story, .ref hp0_machine, .ref hp0_others, .int p0_fault, .int p0_place, .int p0_next, .int p0_sawHead, .int p0_sawMemory, .int (1 : Int32), .int p0_sawBlocks])), (hp1, .inr (0, [.ref hp1_bytes, .int p1_size, .int p1_overflowed])), (hp1_bytes, .inl (E.1, 1200, .inl p1_bytes)), (hp0_story, .inr (4, [.int p0_story_ram, .int p0_story_end, .ref hp0_story_original])), (hp0_machine, .inr (1, [.ref hp0_machine_memory, .int p0_machine_size, .ref hp0_machine_stack, .int p0_machine_depth, .ref hp0_machine_starts, .ref hp0_machine_lengths, .int p0_machine_blocks])), (hp0_machine_memory, .inl (E.1, 512, .inl p0_machine_memory)), (hp0_story_original, .inl (E.1, 512, .inl p0_story_original)), (hp0_machine_starts, .inl (E.1, 8, .inl p0_machine_starts)), (hp0_machine_lengths, .inl (E.1, 8, .inl p0_machine_lengths)), (hp0_machine_stack, .inl (E.1, 40, .inl p0_machine_stack)), (hp0_others, .inr (2, [.int p0_others_count, .ref hp0_others_letters, .ref hp0_others_lengths, .ref hp0_others_bytes])), (hp0_others_letters, .inl (E.1, 4, .inl p0_others_letters)), (hp0_others_lengths, .inl (E.1, 4, .inl p0_others_lengths)), (hp0_others_bytes, .inl (E.1, 240, .inl p0_others_bytes))] H := hP
          have hD : va_D A [(hp0, .inr (3, [.ref hp0_story, .ref hp0_machine, .ref hp0_others, .int p0_fault, .int p0_place, .int p0_next, .int p0_sawHead, .int p0_sawMemory, .int (1 : Int32), .int p0_sawBlocks])), (hp1, .inr (0, [.ref hp1_bytes, .int p1_size, .int p1_overflowed])), (hp1_bytes, .inl (E.1, 1200, .inl p1_bytes)), (hp0_story, .inr (4, [.int p0_story_ram, .int p0_story_end, .ref hp0_story_original])), (hp0_machine, .inr (1, [.ref hp0_machine_memory, .int p0_machine_size, .ref hp0_machine_stack, .int p0_machine_depth, .ref hp0_machine_starts, .ref hp0_machine_lengths, .int p0_machine_blocks])), (hp0_machine_memory, .inl (E.1, 512, .inl p0_machine_memory)), (hp0_story_original, .inl (E.1, 512, .inl p0_story_original)), (hp0_machine_starts, .inl (E.1, 8, .inl p0_machine_starts)), (hp0_machine_lengths, .inl (E.1, 8, .inl p0_machine_lengths)), (hp0_machine_stack, .inl (E.1, 40, .inl p0_machine_stack)), (hp0_others, .inr (2, [.int p0_others_count, .ref hp0_others_letters, .ref hp0_others_lengths, .ref hp0_others_bytes])), (hp0_others_letters, .inl (E.1, 4, .inl p0_others_letters)), (hp0_others_lengths, .inl (E.1, 4, .inl p0_others_lengths)), (hp0_others_bytes, .inl (E.1, 240, .inl p0_others_bytes))] := hD
          refine lv_aload_n hx hb dX3_readInside_104 rfl (lv_at hl 1 rfl) ?_
          refine lv_aload_n hx hb dX3_readInside_105 rfl (lv_at hl 2 rfl) ?_
          refine lv_iload hx hb dX3_readInside_106 (lv_at hl 0 rfl) ?_
          refine lv_iload hx hb dX3_readInside_108 (lv_at hl 5 rfl) ?_
          refine lv_iconst (v := 4) hx hb dX3_readInside_110 (by decide) ?_
          refine lv_idiv hx hb dX3_readInside_111 (by decide) ?_
          obtain ⟨u18, hu18, h⟩ := bd_t h
          refine cVi (wr := [(hp0_story, .inr (4, [.int p0_story_ram, .int p0_story_end, .ref hp0_story_original])), (hp0_machine_memory, .inl (E.1, 512, .inl p0_machine_memory)), (hp0_story_original, .inl (E.1, 512, .inl p0_story_original)), (hp0_machine_starts, .inl (E.1, 8, .inl p0_machine_starts)), (hp0_machine_lengths, .inl (E.1, 8, .inl p0_machine_lengths)), (hp0_others, .inr (2, [.int p0_others_count, .ref hp0_others_letters, .ref hp0_others_lengths, .ref hp0_others_bytes])), (hp0_others_letters, .inl (E.1, 4, .inl p0_others_letters)), (hp0_others_lengths, .inl (E.1, 4, .inl p0_others_lengths)), (hp0_others_bytes, .inl (E.1, 240, .inl p0_others_bytes))]) (As := [.ref hp1, .int x1, .int (i4 / (4 : Int32))]) (rest := []) ⟨hx, hb, hml, hown, hts⟩ (c_X3_readStack l G E N hp0 hp0_story hp0_machine hp0_others p0_fault p0_place p0_next p0_sawHead p0_sawMemory (1 : Int32) p0_sawBlocks hp1 hp1_bytes p1_size p1_overflowed p1_bytes hp0_machine_memory p0_machine_size hp0_machine_stack p0_machine_depth hp0_machine_starts hp0_machine_lengths p0_machine_blocks p0_machine_stack x1 (i4 / (4 : Int32)) u18.1 u18.2.1 u18.2.2 hu18) ok_X3_readStack okv_X3_readStack wd_b9febd37 ⟨Nat.le_of_ble_eq_true rfl, Nat.le_of_ble_eq_true rfl⟩ hK hP hD hS hA [0, 1, 2, 4, 9] [3, 5, 6, 7, 8, 10, 11, 12, 13] rfl rfl (by decide) (by decide) (by decide) (va_recv hK.1 hP (ci := 3) (q0 := 0) rfl rfl) rfl hl.1 rfl (Nat.le_of_ble_eq_true rfl) dX3_readInside_112 ⟨Nat.le_of_ble_eq_true rfl, Nat.le_of_ble_eq_true rfl⟩ (fun H locs a19 hP hD hS => ?_)
          have hP : va_P G vwCl [(hp0_story, .inr (4, [.int p0_story_ram, .int p0_story_end, .ref hp0_story_original])), (hp0_machine_memory, .inl (E.1, 512, .inl p0_machine_memory)), (hp0_story_original, .inl (E.1, 512, .inl p0_story_original)), (hp0_machine_starts, .inl (E.1, 8, .inl p0_machine_starts)), (hp0_machine_lengths, .inl (E.1, 8, .inl p0_machine_lengths)), (hp0_others, .inr (2, [.int p0_others_count, .ref hp0_others_letters, .ref hp0_others_lengths, .ref hp0_others_bytes])), (hp0_others_letters, .inl (E.1, 4, .inl p0_others_letters)), (hp0_others_lengths, .inl (E.1, 4, .inl p0_others_lengths)), (hp0_others_bytes, .inl (E.1, 240, .inl p0_others_bytes)), (hp0, .inr (3, [.ref hp0_story, .ref hp0_machine, .ref hp0_others, .int p0_fault, .int p0_place, .int p0_next, .int p0_sawHead, .int p0_sawMemory, .int (1 : Int32), .int p0_sawBlocks])), (hp1, .inr (0, [.ref hp1_bytes, .int p1_size, .int p1_overflowed])), (hp1_bytes, .inl (E.1, 1200, .inl p1_bytes)), (hp0_machine, .inr (1, [.ref hp0_machine_memory, .int p0_machine_size, .ref hp0_machine_stack, .int u18.2.2, .ref hp0_machine_starts, .ref hp0_machine_lengths, .int p0_machine_blocks])), (hp0_machine_stack, .inl (E.1, 40, .inl u18.2.1))] H := hP
          have hD : va_D A [(hp0_story, .inr (4, [.int p0_story_ram, .int p0_story_end, .ref hp0_story_original])), (hp0_machine_memory, .inl (E.1, 512, .inl p0_machine_memory)), (hp0_story_original, .inl (E.1, 512, .inl p0_story_original)), (hp0_machine_starts, .inl (E.1, 8, .inl p0_machine_starts)), (hp0_machine_lengths, .inl (E.1, 8, .inl p0_machine_lengths)), (hp0_others, .inr (2, [.int p0_others_count, .ref hp0_others_letters, .ref hp0_others_lengths, .ref hp0_others_bytes])), (hp0_others_letters, .inl (E.1, 4, .inl p0_others_letters)), (hp0_others_lengths, .inl (E.1, 4, .inl p0_others_lengths)), (hp0_others_bytes, .inl (E.1, 240, .inl p0_others_bytes)), (hp0, .inr (3, [.ref hp0_story, .ref hp0_machine, .ref hp0_others, .int p0_fault, .int p0_place, .int p0_next, .int p0_sawHead, .int p0_sawMemory, .int (1 : Int32), .int p0_sawBlocks])), (hp1, .inr (0, [.ref hp1_bytes, .int p1_size, .int p1_overflowed])), (hp1_bytes, .inl (E.1, 1200, .inl p1_bytes)), (hp0_machine, .inr (1, [.ref hp0_machine_memory, .int p0_machine_size, .ref hp0_machine_stack, .int u18.2.2, .ref hp0_machine_starts, .ref hp0_machine_lengths, .int p0_machine_blocks])), (hp0_machine_stack, .inl (E.1, 40, .inl u18.2.1))] := hD
          obtain ⟨g20, h⟩ := gbo_t h
          cases h
          exact ret _ _ _ _ _ (fun _ => 0) rfl (bo_nar g20) (hP.sub [9, 10, 11, 0, 12, 1, 2, 3, 4, 13, 5, 6, 7, 8] rfl) (hD.sub [9, 10, 11, 0, 12, 1, 2, 3, 4, 13, 5, 6, 7, 8] (by decide) rfl) hS dX3_readInside_115
        · replace h := if_f h s17
          refine lv_lookup (off := 129) (tgt := 136) hx hb dX3_readInside_7 (by decide) (by rw [lv_osw s2 (by decide)]; rw [lv_osw s9 (by decide)]; rw [lv_osw s13 (by decide)]; rw [lv_osw s17 (by decide)]; rfl) (by decide) ?_
          refine lv_aload_n hx hb dX3_readInside_136 rfl (lv_at hl 1 rfl) ?_
          refine getF (D := G) (ci := 3) (v := .ref hp0_others) (C := RX3) (T := TX3) (N := 10) hx hb hts inG_X3 hown hK.1 hP 0 rfl rfl 2 (by decide) tf_X3_2 (hts _ wd_f439a22a) rfl dX3_readInside_137 ?_
          refine lv_aload_n hx hb dX3_readInside_140 rfl (lv_at hl 2 rfl) ?_
          refine lv_iload_n hx hb dX3_readInside_141 rfl (lv_at hl 4 rfl) ?_
          refine lv_iload hx hb dX3_readInside_142 (lv_at hl 5 rfl) ?_
          obtain ⟨u21, hu21, h⟩ := bd_t h
          refine cVv (wr := [(hp0, .inr (3, [.ref hp0_story, .ref hp0_machine, .ref hp0_others, .int p0_fault, .int p0_place, .int p0_next, .int p0_sawHead, .int p0_sawMemory, .int p0_sawStack, .int p0_sawBlocks])), (hp0_story, .inr (4, [.int p0_story_ram, .int p0_story_end, .ref hp0_story_original])), (hp0_machine, .inr (1, [.ref hp0_machine_memory, .int p0_machine_size, .ref hp0_machine_stack, .int p0_machine_depth, .ref hp0_machine_starts, .ref hp0_machine_lengths, .int p0_machine_blocks])), (hp0_machine_memory, .inl (E.1, 512, .inl p0_machine_memory)), (hp0_story_original, .inl (E.1, 512, .inl p0_story_original)), (hp0_machine_starts, .inl (E.1, 8, .inl p0_machine_starts)), (hp0_machine_lengths, .inl (E.1, 8, .inl p0_machine_lengths)), (hp0_machine_stack, .inl (E.1, 40, .inl p0_machine_stack))]) (As := [.ref hp1, .int i3, .int i4]) (rest := []) ⟨hx, hb, hml, hown, hts⟩ (c_X2_addFrom l G E N hp0_others p0_others_count hp0_others_letters hp0_others_lengths hp0_others_bytes hp1 hp1_bytes p1_size p1_overflowed p1_bytes p0_others_letters p0_others_lengths p0_others_bytes i3 i4 u21.1 u21.2.1 u21.2.2.1 u21.2.2.2 hu21) ok_X2_addFrom okv_X2_addFrom wd_c8f5b245 ⟨Nat.le_of_ble_eq_true rfl, Nat.le_of_ble_eq_true rfl⟩ hK hP hD hS hA [10, 1, 2, 11, 12, 13] [0, 3, 4, 5, 6, 7, 8, 9] rfl rfl (by decide) (by decide) (by decide) (va_recv hK.1 hP (ci := 2) (q0 := 10) rfl rfl) rfl hl.1 rfl (Nat.le_of_ble_eq_true rfl) dX3_readInside_144 ⟨Nat.le_of_ble_eq_true rfl, Nat.le_of_ble_eq_true rfl⟩ (fun H locs a22 hP hD hS => ?_)
          have hP : va_P G vwCl [(hp0, .inr (3, [.ref hp0_story, .ref hp0_machine, .ref hp0_others, .int p0_fault, .int p0_place, .int p0_next, .int p0_sawHead, .int p0_sawMemory, .int p0_sawStack, .int p0_sawBlocks])), (hp0_story, .inr (4, [.int p0_story_ram, .int p0_story_end, .ref hp0_story_original])), (hp0_machine, .inr (1, [.ref hp0_machine_memory, .int p0_machine_size, .ref hp0_machine_stack, .int p0_machine_depth, .ref hp0_machine_starts, .ref hp0_machine_lengths, .int p0_machine_blocks])), (hp0_machine_memory, .inl (E.1, 512, .inl p0_machine_memory)), (hp0_story_original, .inl (E.1, 512, .inl p0_story_original)), (hp0_machine_starts, .inl (E.1, 8, .inl p0_machine_starts)), (hp0_machine_lengths, .inl (E.1, 8, .inl p0_machine_lengths)), (hp0_machine_stack, .inl (E.1, 40, .inl p0_machine_stack)), (hp0_others, .inr (2, [.int u21.1, .ref hp0_others_letters, .ref hp0_others_lengths, .ref hp0_others_bytes])), (hp1, .inr (0, [.ref hp1_bytes, .int p1_size, .int p1_overflowed])), (hp1_bytes, .inl (E.1, 1200, .inl p1_bytes)), (hp0_others_letters, .inl (E.1, 4, .inl u21.2.1)), (hp0_others_lengths, .inl (E.1, 4, .inl u21.2.2.1)), (hp0_others_bytes, .inl (E.1, 240, .inl u21.2.2.2))] H := hP
          have hD : va_D A [(hp0, .inr (3, [.ref hp0_story, .ref hp0_machine, .ref hp0_others, .int p0_fault, .int p0_place, .int p0_next, .int p0_sawHead, .int p0_sawMemory, .int p0_sawStack, .int p0_sawBlocks])), (hp0_story, .inr (4, [.int p0_story_ram, .int p0_story_end, .ref hp0_story_original])), (hp0_machine, .inr (1, [.ref hp0_machine_memory, .int p0_machine_size, .ref hp0_machine_stack, .int p0_machine_depth, .ref hp0_machine_starts, .ref hp0_machine_lengths, .int p0_machine_blocks])), (hp0_machine_memory, .inl (E.1, 512, .inl p0_machine_memory)), (hp0_story_original, .inl (E.1, 512, .inl p0_story_original)), (hp0_machine_starts, .inl (E.1, 8, .inl p0_machine_starts)), (hp0_machine_lengths, .inl (E.1, 8, .inl p0_machine_lengths)), (hp0_machine_stack, .inl (E.1, 40, .inl p0_machine_stack)), (hp0_others, .inr (2, [.int u21.1, .ref hp0_others_letters, .ref hp0_others_lengths, .ref hp0_others_bytes])), (hp1, .inr (0, [.ref hp1_bytes, .int p1_size, .int p1_overflowed])), (hp1_bytes, .inl (E.1, 1200, .inl p1_bytes)), (hp0_others_letters, .inl (E.1, 4, .inl u21.2.1)), (hp0_others_lengths, .inl (E.1, 4, .inl u21.2.2.1)), (hp0_others_bytes, .inl (E.1, 240, .inl u21.2.2.2))] := hD
          refine lv_iconst (v := 1) hx hb dX3_readInside_147 (by decide) ?_
          cases h
          exact ret _ _ _ _ _ (fun _ => 0) rfl rfl (hP.sub [0, 9, 10, 1, 2, 3, 4, 5, 6, 7, 8, 11, 12, 13] rfl) (hD.sub [0, 9, 10, 1, 2, 3, 4, 5, 6, 7, 8, 11, 12, 13] (by decide) rfl) hS dX3_readInside_148
def f_X3_readChunk (N : Nat) (i2 : Int32) (p1_size : Int32) (p0_fault : Int32) (p0_place : Int32) (p0_next : Int32) (p0_sawHead : Int32) (p0_sawMemory : Int32) (p0_sawStack : Int32) (p0_sawBlocks : Int32) (p1_bytes : (Nat → Int32)) (p0_others_count : Int32) (p0_story_ram : Int32) (p0_story_end : Int32) (p0_machine_size : Int32) (p0_machine_depth : Int32) (p0_machine_blocks : Int32) (p0_machine_memory : (Nat → Int32)) (p0_story_original : (Nat → Int32)) (p0_machine_starts : (Nat → Int32)) (p0_machine_lengths : (Nat → Int32)) (p0_machine_stack : (Nat → Int32)) (p0_others_letters : (Nat → Int32)) (p0_others_lengths : (Nat → Int32)) (p0_others_bytes : (Nat → Int32)) : Option (Int32 × Int32 × Int32 × Int32 × Int32 × Int32 × Int32 × Int32 × (Nat → Int32) × Int32 × (Nat → Int32) × Int32 × (Nat → Int32) × (Nat → Int32) × Int32 × Int32 × (Nat → Int32) × (Nat → Int32) × (Nat → Int32)) :=
  bd (f_X3_reaches i2 (4 : Int64) p1_size p0_fault p0_place) fun u1 =>
  if u1.1 = 0 then (
  some ((0 : Int32), u1.2.1, u1.2.2, p0_next, p0_sawHead, p0_sawMemory, p0_sawStack, p0_sawBlocks, p0_machine_memory, p0_machine_size, p0_machine_stack, p0_machine_depth, p0_machine_starts, p0_machine_lengths, p0_machine_blocks, p0_others_count, p0_others_letters, p0_others_lengths, p0_others_bytes))
  else
  bd (f_X0_fourAt i2 p1_bytes) fun u4 =>
  bd (f_X3_mayCome u4 i2 u1.2.1 u1.2.2 p0_sawHead p0_sawMemory p0_sawStack p0_sawBlocks) fun u6 =>
  if u6.1 = 0 then (
  some ((0 : Int32), u6.2.1, u6.2.2, p0_next, p0_sawHead, p0_sawMemory, p0_sawStack, p0_sawBlocks, p0_machine_memory, p0_machine_size, p0_machine_stack, p0_machine_depth, p0_machine_starts, p0_machine_lengths, p0_machine_blocks, p0_others_count, p0_others_letters, p0_others_lengths, p0_others_bytes))
  else
  bd (f_X3_reaches (i2 + (4 : Int32)) (4 : Int64) p1_size u6.2.1 u6.2.2) fun u9 =>
  if u9.1 = 0 then (
  some ((0 : Int32), u9.2.1, u9.2.2, p0_next, p0_sawHead, p0_sawMemory, p0_sawStack, p0_sawBlocks, p0_machine_memory, p0_machine_size, p0_machine_stack, p0_machine_depth, p0_machine_starts, p0_machine_lengths, p0_machine_blocks, p0_others_count, p0_others_letters, p0_others_lengths, p0_others_bytes))
  else
  bd (f_X0_fourAt (i2 + (4 : Int32)) p1_bytes) fun u12 =>
  bd (f_X3_lengthMayBe u4 u12 i2 u9.2.1 u9.2.2 p0_others_count) fun u14 =>
  if u14.1 = 0 then (
  some ((0 : Int32), u14.2.1, u14.2.2, p0_next, p0_sawHead, p0_sawMemory, p0_sawStack, p0_sawBlocks, p0_machine_memory, p0_machine_size, p0_machine_stack, p0_machine_depth, p0_machine_starts, p0_machine_lengths, p0_machine_blocks, p0_others_count, p0_others_letters, p0_others_lengths, p0_others_bytes))
  else
  bd (f_X3_isWhole i2 u12 p1_size u14.2.1 u14.2.2 p1_bytes) fun u17 =>
  if u17.1 = 0 then (
  some ((0 : Int32), u17.2.1, u17.2.2, p0_next, p0_sawHead, p0_sawMemory, p0_sawStack, p0_sawBlocks, p0_machine_memory, p0_machine_size, p0_machine_stack, p0_machine_depth, p0_machine_starts, p0_machine_lengths, p0_machine_blocks, p0_others_count, p0_others_letters, p0_others_lengths, p0_others_bytes))
  else
  bn (((i2 + (8 : Int32)) + u12) + (u12 &&& (1 : Int32))) fun x20 =>
  bd (f_X3_readInside N u4 i2 u12 u17.2.1 u17.2.2 p0_sawHead p0_sawMemory p0_sawStack p0_sawBlocks p1_bytes p0_story_ram p0_story_end p0_machine_size p0_machine_depth p0_machine_blocks p0_machine_memory p0_story_original p0_machine_starts p0_machine_lengths p0_machine_stack p0_others_count p0_others_letters p0_others_lengths p0_others_bytes) fun u21 =>
  gbo u21.1 <|
  some (u21.1, u21.2.1, u21.2.2.1, x20, u21.2.2.2.1, u21.2.2.2.2.1, u21.2.2.2.2.2.1, u21.2.2.2.2.2.2.1, u21.2.2.2.2.2.2.2.1, u21.2.2.2.2.2.2.2.2.1, u21.2.2.2.2.2.2.2.2.2.1, u21.2.2.2.2.2.2.2.2.2.2.1, u21.2.2.2.2.2.2.2.2.2.2.2.1, u21.2.2.2.2.2.2.2.2.2.2.2.2.1, u21.2.2.2.2.2.2.2.2.2.2.2.2.2.1, u21.2.2.2.2.2.2.2.2.2.2.2.2.2.2.1, u21.2.2.2.2.2.2.2.2.2.2.2.2.2.2.2.1, u21.2.2.2.2.2.2.2.2.2.2.2.2.2.2.2.2.1, u21.2.2.2.2.2.2.2.2.2.2.2.2.2.2.2.2.2)
abbrev w_rm_X3_readChunk : Room := { frames := 4, cells := 0, slots := 0, locals := 97 }
set_option maxHeartbeats 4000000 in
set_option maxRecDepth 100000 in
theorem c_X3_readChunk (l : Launch) (G : va_G) (E : ClassId × ClassId × ClassId) (N : Nat) (hp1 : Nat) (hp1_bytes : Nat) (p1_size : Int32) (p1_overflowed : Int32) (hp0 : Nat) (hp0_story : Nat) (hp0_machine : Nat) (hp0_others : Nat) (p0_fault : Int32) (p0_place : Int32) (p0_next : Int32) (p0_sawHead : Int32) (p0_sawMemory : Int32) (p0_sawStack : Int32) (p0_sawBlocks : Int32) (p1_bytes : (Nat → Int32)) (p0_others_count : Int32) (hp0_others_letters : Nat) (hp0_others_lengths : Nat) (hp0_others_bytes : Nat) (p0_story_ram : Int32) (p0_story_end : Int32) (hp0_story_original : Nat) (hp0_machine_memory : Nat) (p0_machine_size : Int32) (hp0_machine_stack : Nat) (p0_machine_depth : Int32) (hp0_machine_starts : Nat) (hp0_machine_lengths : Nat) (p0_machine_blocks : Int32) (p0_machine_memory : (Nat → Int32)) (p0_story_original : (Nat → Int32)) (p0_machine_starts : (Nat → Int32)) (p0_machine_lengths : (Nat → Int32)) (p0_machine_stack : (Nat → Int32)) (p0_others_letters : (Nat → Int32)) (p0_others_lengths : (Nat → Int32)) (p0_others_bytes : (Nat → Int32)) (i2 : Int32) (r : Int32) (o0 : Int32) (o1 : Int32) (o2 : Int32) (o3 : Int32) (o4 : Int32) (o5 : Int32) (o6 : Int32) (o7 : (Nat → Int32)) (o8 : Int32) (o9 : (Nat → Int32)) (o10 : Int32) (o11 : (Nat → Int32)) (o12 : (Nat → Int32)) (o13 : Int32) (o14 : Int32) (o15 : (Nat → Int32)) (o16 : (Nat → Int32)) (o17 : (Nat → Int32)) (h : f_X3_readChunk N i2 p1_size p0_fault p0_place p0_next p0_sawHead p0_sawMemory p0_sawStack p0_sawBlocks p1_bytes p0_others_count p0_story_ram p0_story_end p0_machine_size p0_machine_depth p0_machine_blocks p0_machine_memory p0_story_original p0_machine_starts p0_machine_lengths p0_machine_stack p0_others_letters p0_others_lengths p0_others_bytes = some (r, o0, o1, o2, o3, o4, o5, o6, o7, o8, o9, o10, o11, o12, o13, o14, o15, o16, o17)) : MI l G E yX3_readChunk cX3_readChunk 5 .boolean w_rm_X3_readChunk [.ref hp0, .ref hp1, .int i2] [(hp1, .inr (0, [.ref hp1_bytes, .int p1_size, .int p1_overflowed])), (hp0, .inr (3, [.ref hp0_story, .ref hp0_machine, .ref hp0_others, .int p0_fault, .int p0_place, .int p0_next, .int p0_sawHead, .int p0_sawMemory, .int p0_sawStack, .int p0_sawBlocks])), (hp1_bytes, .inl (E.1, 1200, .inl p1_bytes)), (hp0_others, .inr (2, [.int p0_others_count, .ref hp0_others_letters, .ref hp0_others_lengths, .ref hp0_others_bytes])), (hp0_story, .inr (4, [.int p0_story_ram, .int p0_story_end, .ref hp0_story_original])), (hp0_machine, .inr (1, [.ref hp0_machine_memory, .int p0_machine_size, .ref hp0_machine_stack, .int p0_machine_depth, .ref hp0_machine_starts, .ref hp0_machine_lengths, .int p0_machine_blocks])), (hp0_machine_memory, .inl (E.1, 512, .inl p0_machine_memory)), (hp0_story_original, .inl (E.1, 512, .inl p0_story_original)), (hp0_machine_starts, .inl (E.1, 8, .inl p0_machine_starts)), (hp0_machine_lengths, .inl (E.1, 8, .inl p0_machine_lengths)), (hp0_machine_stack, .inl (E.1, 40, .inl p0_machine_stack)), (hp0_others_letters, .inl (E.1, 4, .inl p0_others_letters)), (hp0_others_lengths, .inl (E.1, 4, .inl p0_others_lengths)), (hp0_others_bytes, .inl (E.1, 240, .inl p0_others_bytes))] r (fun a => [(hp1, .inr (0, [.ref hp1_bytes, .int p1_size, .int p1_overflowed])), (hp0, .inr (3, [.ref hp0_story, .ref hp0_machine, .ref hp0_others, .int o0, .int o1, .int o2, .int o3, .int o4, .int o5, .int o6])), (hp1_bytes, .inl (E.1, 1200, .inl p1_bytes)), (hp0_others, .inr (2, [.int o14, .ref hp0_others_letters, .ref hp0_others_lengths, .ref hp0_others_bytes])), (hp0_story, .inr (4, [.int p0_story_ram, .int p0_story_end, .ref hp0_story_original])), (hp0_machine, .inr (1, [.ref hp0_machine_memory, .int o8, .ref hp0_machine_stack, .int o10, .ref hp0_machine_starts, .ref hp0_machine_lengths, .int o13])), (hp0_machine_memory, .inl (E.1, 512, .inl o7)), (hp0_story_original, .inl (E.1, 512, .inl p0_story_original)), (hp0_machine_starts, .inl (E.1, 8, .inl o11)), (hp0_machine_lengths, .inl (E.1, 8, .inl o12)), (hp0_machine_stack, .inl (E.1, 40, .inl o9)), (hp0_others_letters, .inl (E.1, 4, .inl o15)), (hp0_others_lengths, .inl (E.1, 4, .inl o16)), (hp0_others_bytes, .inl (E.1, 240, .inl o17))]) 0 0 := by
  refine MI_of (by decide) (Nat.le_of_ble_eq_true rfl) ?_
  intro p e s m args below meth c A Q hx hb hml hown hts hK hA hP hD hS ret ls hl
  replace hl : lv_has ls 5 [(0, .ref hp0), (1, .ref hp1), (2, .int i2)] := hl
  unfold f_X3_readChunk at h
  refine lv_aload_n hx hb dX3_readChunk_0 rfl (lv_at hl 0 rfl) ?_
  refine lv_aload_n hx hb dX3_readChunk_1 rfl (lv_at hl 1 rfl) ?_
  refine lv_iload_n hx hb dX3_readChunk_2 rfl (lv_at hl 2 rfl) ?_
  refine lv_ldc2 hx hb hown (hts _ wd_327efb4f) dX3_readChunk_3 ?_
  obtain ⟨u1, hu1, h⟩ := bd_t h
  refine cVi (wr := [(hp1_bytes, .inl (E.1, 1200, .inl p1_bytes)), (hp0_others, .inr (2, [.int p0_others_count, .ref hp0_others_letters, .ref hp0_others_lengths, .ref hp0_others_bytes])), (hp0_story, .inr (4, [.int p0_story_ram, .int p0_story_end, .ref hp0_story_original])), (hp0_machine, .inr (1, [.ref hp0_machine_memory, .int p0_machine_size, .ref hp0_machine_stack, .int p0_machine_depth, .ref hp0_machine_starts, .ref hp0_machine_lengths, .int p0_machine_blocks])), (hp0_machine_memory, .inl (E.1, 512, .inl p0_machine_memory)), (hp0_story_original, .inl (E.1, 512, .inl p0_story_original)), (hp0_machine_starts, .inl (E.1, 8, .inl p0_machine_starts)), (hp0_machine_lengths, .inl (E.1, 8, .inl p0_machine_lengths)), (hp0_machine_stack, .inl (E.1, 40, .inl p0_machine_stack)), (hp0_others_letters, .inl (E.1, 4, .inl p0_others_letters)), (hp0_others_lengths, .inl (E.1, 4, .inl p0_others_lengths)), (hp0_others_bytes, .inl (E.1, 240, .inl p0_others_bytes))]) (As := [.ref hp1, .int i2, .long (4 : Int64)]) (rest := []) ⟨hx, hb, hml, hown, hts⟩ (c_X3_reaches l G E hp1 hp1_bytes p1_size p1_overflowed hp0 hp0_story hp0_machine hp0_others p0_fault p0_place p0_next p0_sawHead p0_sawMemory p0_sawStack p0_sawBlocks i2 (4 : Int64) u1.1 u1.2.1 u1.2.2 hu1) ok_X3_reaches okv_X3_reaches wd_4a1b47ad ⟨Nat.le_of_ble_eq_true rfl, Nat.le_of_ble_eq_true rfl⟩ hK hP hD hS hA [0, 1] [2, 3, 4, 5, 6, 7, 8, 9, 10, 11, 12, 13] rfl rfl (by decide) (by decide) (by decide) (va_recv hK.1 hP (ci := 3) (q0 := 1) rfl rfl) rfl hl.1 rfl (Nat.le_of_ble_eq_true rfl) dX3_readChunk_6 ⟨Nat.le_of_ble_eq_true rfl, Nat.le_of_ble_eq_true rfl⟩ (fun H locs a2 hP hD hS => ?_)
  have hP : va_P G vwCl [(hp1_bytes, .inl (E.1, 1200, .inl p1_bytes)), (hp0_others, .inr (2, [.int p0_others_count, .ref hp0_others_letters, .ref hp0_others_lengths, .ref hp0_others_bytes])), (hp0_story, .inr (4, [.int p0_story_ram, .int p0_story_end, .ref hp0_story_original])), (hp0_machine, .inr (1, [.ref hp0_machine_memory, .int p0_machine_size, .ref hp0_machine_stack, .int p0_machine_depth, .ref hp0_machine_starts, .ref hp0_machine_lengths, .int p0_machine_blocks])), (hp0_machine_memory, .inl (E.1, 512, .inl p0_machine_memory)), (hp0_story_original, .inl (E.1, 512, .inl p0_story_original)), (hp0_machine_starts, .inl (E.1, 8, .inl p0_machine_starts)), (hp0_machine_lengths, .inl (E.1, 8, .inl p0_machine_lengths)), (hp0_machine_stack, .inl (E.1, 40, .inl p0_machine_stack)), (hp0_others_letters, .inl (E.1, 4, .inl p0_others_letters)), (hp0_others_lengths, .inl (E.1, 4, .inl p0_others_lengths)), (hp0_others_bytes, .inl (E.1, 240, .inl p0_others_bytes)), (hp1, .inr (0, [.ref hp1_bytes, .int p1_size, .int p1_overflowed])), (hp0, .inr (3, [.ref hp0_story, .ref hp0_machine, .ref hp0_others, .int u1.2.1, .int u1.2.2, .int p0_next, .int p0_sawHead, .int p0_sawMemory, .int p0_sawStack, .int p0_sawBlocks]))] H := hP
  have hD : va_D A [(hp1_bytes, .inl (E.1, 1200, .inl p1_bytes)), (hp0_others, .inr (2, [.int p0_others_count, .ref hp0_others_letters, .ref hp0_others_lengths, .ref hp0_others_bytes])), (hp0_story, .inr (4, [.int p0_story_ram, .int p0_story_end, .ref hp0_story_original])), (hp0_machine, .inr (1, [.ref hp0_machine_memory, .int p0_machine_size, .ref hp0_machine_stack, .int p0_machine_depth, .ref hp0_machine_starts, .ref hp0_machine_lengths, .int p0_machine_blocks])), (hp0_machine_memory, .inl (E.1, 512, .inl p0_machine_memory)), (hp0_story_original, .inl (E.1, 512, .inl p0_story_original)), (hp0_machine_starts, .inl (E.1, 8, .inl p0_machine_starts)), (hp0_machine_lengths, .inl (E.1, 8, .inl p0_machine_lengths)), (hp0_machine_stack, .inl (E.1, 40, .inl p0_machine_stack)), (hp0_others_letters, .inl (E.1, 4, .inl p0_others_letters)), (hp0_others_lengths, .inl (E.1, 4, .inl p0_others_lengths)), (hp0_others_bytes, .inl (E.1, 240, .inl p0_others_bytes)), (hp1, .inr (0, [.ref hp1_bytes, .int p1_size, .int p1_overflowed])), (hp0, .inr (3, [.ref hp0_story, .ref hp0_machine, .ref hp0_others, .int u1.2.1, .int u1.2.2, .int p0_next, .int p0_sawHead, .int p0_sawMemory, .int p0_sawStack, .int p0_sawBlocks]))] := hD
  refine lv_if_ne (tgt := 14) hx hb dX3_readChunk_9 (by decide) (fun c3 => ?_) (fun c3 => ?_)
  · replace h := if_f h c3
    refine lv_aload_n hx hb dX3_readChunk_14 rfl (lv_at hl 1 rfl) ?_
    refine lv_iload_n hx hb dX3_readChunk_15 rfl (lv_at hl 2 rfl) ?_
    obtain ⟨u4, hu4, h⟩ := bd_t h
    refine cVi (wr := [(hp0_others, .inr (2, [.int p0_others_count, .ref hp0_others_letters, .ref hp0_others_lengths, .ref hp0_others_bytes])), (hp0_story, .inr (4, [.int p0_story_ram, .int p0_story_end, .ref hp0_story_original])), (hp0_machine, .inr (1, [.ref hp0_machine_memory, .int p0_machine_size, .ref hp0_machine_stack, .int p0_machine_depth, .ref hp0_machine_starts, .ref hp0_machine_lengths, .int p0_machine_blocks])), (hp0_machine_memory, .inl (E.1, 512, .inl p0_machine_memory)), (hp0_story_original, .inl (E.1, 512, .inl p0_story_original)), (hp0_machine_starts, .inl (E.1, 8, .inl p0_machine_starts)), (hp0_machine_lengths, .inl (E.1, 8, .inl p0_machine_lengths)), (hp0_machine_stack, .inl (E.1, 40, .inl p0_machine_stack)), (hp0_others_letters, .inl (E.1, 4, .inl p0_others_letters)), (hp0_others_lengths, .inl (E.1, 4, .inl p0_others_lengths)), (hp0_others_bytes, .inl (E.1, 240, .inl p0_others_bytes)), (hp0, .inr (3, [.ref hp0_story, .ref hp0_machine, .ref hp0_others, .int u1.2.1, .int u1.2.2, .int p0_next, .int p0_sawHead, .int p0_sawMemory, .int p0_sawStack, .int p0_sawBlocks]))]) (As := [.int i2]) (rest := []) ⟨hx, hb, hml, hown, hts⟩ (c_X0_fourAt l G E hp1 hp1_bytes p1_size p1_overflowed p1_bytes i2 u4 hu4) ok_X0_fourAt okv_X0_fourAt wd_6a67b9d3 ⟨Nat.le_of_ble_eq_true rfl, Nat.le_of_ble_eq_true rfl⟩ hK hP hD hS hA [12, 0] [1, 2, 3, 4, 5, 6, 7, 8, 9, 10, 11, 13] rfl rfl (by decide) (by decide) (by decide) (va_recv hK.1 hP (ci := 0) (q0 := 12) rfl rfl) rfl hl.1 rfl (Nat.le_of_ble_eq_true rfl) dX3_readChunk_16 ⟨Nat.le_of_ble_eq_true rfl, Nat.le_of_ble_eq_true rfl⟩ (fun H locs a5 hP hD hS => ?_)
    have hP : va_P G vwCl [(hp0_others, .inr (2, [.int p0_others_count, .ref hp0_others_letters, .ref hp0_others_lengths, .ref hp0_others_bytes])), (hp0_story, .inr (4, [.int p0_story_ram, .int p0_story_end, .ref hp0_story_original])), (hp0_machine, .inr (1, [.ref hp0_machine_memory, .int p0_machine_size, .ref hp0_machine_stack, .int p0_machine_depth, .ref hp0_machine_starts, .ref hp0_machine_lengths, .int p0_machine_blocks])), (hp0_machine_memory, .inl (E.1, 512, .inl p0_machine_memory)), (hp0_story_original, .inl (E.1, 512, .inl p0_story_original)), (hp0_machine_starts, .inl (E.1, 8, .inl p0_machine_starts)), (hp0_machine_lengths, .inl (E.1, 8, .inl p0_machine_lengths)), (hp0_machine_stack, .inl (E.1, 40, .inl p0_machine_stack)), (hp0_others_letters, .inl (E.1, 4, .inl p0_others_letters)), (hp0_others_lengths, .inl (E.1, 4, .inl p0_others_lengths)), (hp0_others_bytes, .inl (E.1, 240, .inl p0_others_bytes)), (hp0, .inr (3, [.ref hp0_story, .ref hp0_machine, .ref hp0_others, .int u1.2.1, .int u1.2.2, .int p0_next, .int p0_sawHead, .int p0_sawMemory, .int p0_sawStack, .int p0_sawBlocks])), (hp1, .inr (0, [.ref hp1_bytes, .int p1_size, .int p1_overflowed])), (hp1_bytes, .inl (E.1, 1200, .inl p1_bytes))] H := hP
    have hD : va_D A [(hp0_others, .inr (2, [.int p0_others_count, .ref hp0_others_letters, .ref hp0_others_lengths, .ref hp0_others_bytes])), (hp0_story, .inr (4, [.int p0_story_ram, .int p0_story_end, .ref hp0_story_original])), (hp0_machine, .inr (1, [.ref hp0_machine_memory, .int p0_machine_size, .ref hp0_machine_stack, .int p0_machine_depth, .ref hp0_machine_starts, .ref hp0_machine_lengths, .int p0_machine_blocks])), (hp0_machine_memory, .inl (E.1, 512, .inl p0_machine_memory)), (hp0_story_original, .inl (E.1, 512, .inl p0_story_original)), (hp0_machine_starts, .inl (E.1, 8, .inl p0_machine_starts)), (hp0_machine_lengths, .inl (E.1, 8, .inl p0_machine_lengths)), (hp0_machine_stack, .inl (E.1, 40, .inl p0_machine_stack)), (hp0_others_letters, .inl (E.1, 4, .inl p0_others_letters)), (hp0_others_lengths, .inl (E.1, 4, .inl p0_others_lengths)), (hp0_others_bytes, .inl (E.1, 240, .inl p0_others_bytes)), (hp0, .inr (3, [.ref hp0_story, .ref hp0_machine, .ref hp0_others, .int u1.2.1, .int u1.2.2, .int p0_next, .int p0_sawHead, .int p0_sawMemory, .int p0_sawStack, .int p0_sawBlocks])), (hp1, .inr (0, [.ref hp1_bytes, .int p1_size, .int p1_overflowed])), (hp1_bytes, .inl (E.1, 1200, .inl p1_bytes))] := hD
    refine lv_istore_n (lv' := [(3, .int u4), (0, .ref hp0), (1, .ref hp1), (2, .int i2)]) hx hb dX3_readChunk_19 rfl hl (by decide) rfl (fun ls hl => ?_)
    refine lv_aload_n hx hb dX3_readChunk_20 rfl (lv_at hl 1 rfl) ?_
    refine lv_iload_n hx hb dX3_readChunk_21 rfl (lv_at hl 0 rfl) ?_
    refine lv_iload_n hx hb dX3_readChunk_22 rfl (lv_at hl 3 rfl) ?_
    obtain ⟨u6, hu6, h⟩ := bd_t h
    refine cVi (wr := [(hp0_others, .inr (2, [.int p0_others_count, .ref hp0_others_letters, .ref hp0_others_lengths, .ref hp0_others_bytes])), (hp0_story, .inr (4, [.int p0_story_ram, .int p0_story_end, .ref hp0_story_original])), (hp0_machine, .inr (1, [.ref hp0_machine_memory, .int p0_machine_size, .ref hp0_machine_stack, .int p0_machine_depth, .ref hp0_machine_starts, .ref hp0_machine_lengths, .int p0_machine_blocks])), (hp0_machine_memory, .inl (E.1, 512, .inl p0_machine_memory)), (hp0_story_original, .inl (E.1, 512, .inl p0_story_original)), (hp0_machine_starts, .inl (E.1, 8, .inl p0_machine_starts)), (hp0_machine_lengths, .inl (E.1, 8, .inl p0_machine_lengths)), (hp0_machine_stack, .inl (E.1, 40, .inl p0_machine_stack)), (hp0_others_letters, .inl (E.1, 4, .inl p0_others_letters)), (hp0_others_lengths, .inl (E.1, 4, .inl p0_others_lengths)), (hp0_others_bytes, .inl (E.1, 240, .inl p0_others_bytes)), (hp1, .inr (0, [.ref hp1_bytes, .int p1_size, .int p1_overflowed])), (hp1_bytes, .inl (E.1, 1200, .inl p1_bytes))]) (As := [.int u4, .int i2]) (rest := []) ⟨hx, hb, hml, hown, hts⟩ (c_X3_mayCome l G E hp0 hp0_story hp0_machine hp0_others u1.2.1 u1.2.2 p0_next p0_sawHead p0_sawMemory p0_sawStack p0_sawBlocks u4 i2 u6.1 u6.2.1 u6.2.2 hu6) ok_X3_mayCome okv_X3_mayCome wd_c08c9fd4 ⟨Nat.le_of_ble_eq_true rfl, Nat.le_of_ble_eq_true rfl⟩ hK hP hD hS hA [11] [0, 1, 2, 3, 4, 5, 6, 7, 8, 9, 10, 12, 13] rfl rfl (by decide) (by decide) (by decide) (va_recv hK.1 hP (ci := 3) (q0 := 11) rfl rfl) rfl hl.1 rfl (Nat.le_of_ble_eq_true rfl) dX3_readChunk_23 ⟨Nat.le_of_ble_eq_true rfl, Nat.le_of_ble_eq_true rfl⟩ (fun H locs a7 hP hD hS => ?_)
    have hP : va_P G vwCl [(hp0_others, .inr (2, [.int p0_others_count, .ref hp0_others_letters, .ref hp0_others_lengths, .ref hp0_others_bytes])), (hp0_story, .inr (4, [.int p0_story_ram, .int p0_story_end, .ref hp0_story_original])), (hp0_machine, .inr (1, [.ref hp0_machine_memory, .int p0_machine_size, .ref hp0_machine_stack, .int p0_machine_depth, .ref hp0_machine_starts, .ref hp0_machine_lengths, .int p0_machine_blocks])), (hp0_machine_memory, .inl (E.1, 512, .inl p0_machine_memory)), (hp0_story_original, .inl (E.1, 512, .inl p0_story_original)), (hp0_machine_starts, .inl (E.1, 8, .inl p0_machine_starts)), (hp0_machine_lengths, .inl (E.1, 8, .inl p0_machine_lengths)), (hp0_machine_stack, .inl (E.1, 40, .inl p0_machine_stack)), (hp0_others_letters, .inl (E.1, 4, .inl p0_others_letters)), (hp0_others_lengths, .inl (E.1, 4, .inl p0_others_lengths)), (hp0_others_bytes, .inl (E.1, 240, .inl p0_others_bytes)), (hp1, .inr (0, [.ref hp1_bytes, .int p1_size, .int p1_overflowed])), (hp1_bytes, .inl (E.1, 1200, .inl p1_bytes)), (hp0, .inr (3, [.ref hp0_story, .ref hp0_machine, .ref hp0_others, .int u6.2.1, .int u6.2.2, .int p0_next, .int p0_sawHead, .int p0_sawMemory, .int p0_sawStack, .int p0_sawBlocks]))] H := hP
    have hD : va_D A [(hp0_others, .inr (2, [.int p0_others_count, .ref hp0_others_letters, .ref hp0_others_lengths, .ref hp0_others_bytes])), (hp0_story, .inr (4, [.int p0_story_ram, .int p0_story_end, .ref hp0_story_original])), (hp0_machine, .inr (1, [.ref hp0_machine_memory, .int p0_machine_size, .ref hp0_machine_stack, .int p0_machine_depth, .ref hp0_machine_starts, .ref hp0_machine_lengths, .int p0_machine_blocks])), (hp0_machine_memory, .inl (E.1, 512, .inl p0_machine_memory)), (hp0_story_original, .inl (E.1, 512, .inl p0_story_original)), (hp0_machine_starts, .inl (E.1, 8, .inl p0_machine_starts)), (hp0_machine_lengths, .inl (E.1, 8, .inl p0_machine_lengths)), (hp0_machine_stack, .inl (E.1, 40, .inl p0_machine_stack)), (hp0_others_letters, .inl (E.1, 4, .inl p0_others_letters)), (hp0_others_lengths, .inl (E.1, 4, .inl p0_others_lengths)), (hp0_others_bytes, .inl (E.1, 240, .inl p0_others_bytes)), (hp1, .inr (0, [.ref hp1_bytes, .int p1_size, .int p1_overflowed])), (hp1_bytes, .inl (E.1, 1200, .inl p1_bytes)), (hp0, .inr (3, [.ref hp0_story, .ref hp0_machine, .ref hp0_others, .int u6.2.1, .int u6.2.2, .int p0_next, .int p0_sawHead, .int p0_sawMemory, .int p0_sawStack, .int p0_sawBlocks]))] := hD
    refine lv_if_eq (tgt := 43) hx hb dX3_readChunk_26 (by decide) (fun c8 => ?_) (fun c8 => ?_)
    · replace h := if_t h c8
      refine lv_iconst (v := 0) hx hb dX3_readChunk_43 (by decide) ?_
      cases h
      exact ret _ _ _ _ _ (fun _ => 0) rfl rfl (hP.sub [11, 13, 12, 0, 1, 2, 3, 4, 5, 6, 7, 8, 9, 10] rfl) (hD.sub [11, 13, 12, 0, 1, 2, 3, 4, 5, 6, 7, 8, 9, 10] (by decide) rfl) hS dX3_readChunk_44
    · replace h := if_f h c8
      refine lv_aload_n hx hb dX3_readChunk_29 rfl (lv_at hl 1 rfl) ?_
      refine lv_aload_n hx hb dX3_readChunk_30 rfl (lv_at hl 2 rfl) ?_
      refine lv_iload_n hx hb dX3_readChunk_31 rfl (lv_at hl 3 rfl) ?_
      refine lv_iconst (v := 4) hx hb dX3_readChunk_32 (by decide) ?_
      refine lv_iadd hx hb dX3_readChunk_33 ?_
      refine lv_ldc2 hx hb hown (hts _ wd_327efb4f) dX3_readChunk_34 ?_
      obtain ⟨u9, hu9, h⟩ := bd_t h
      refine cVi (wr := [(hp0_others, .inr (2, [.int p0_others_count, .ref hp0_others_letters, .ref hp0_others_lengths, .ref hp0_others_bytes])), (hp0_story, .inr (4, [.int p0_story_ram, .int p0_story_end, .ref hp0_story_original])), (hp0_machine, .inr (1, [.ref hp0_machine_memory, .int p0_machine_size, .ref hp0_machine_stack, .int p0_machine_depth, .ref hp0_machine_starts, .ref hp0_machine_lengths, .int p0_machine_blocks])), (hp0_machine_memory, .inl (E.1, 512, .inl p0_machine_memory)), (hp0_story_original, .inl (E.1, 512, .inl p0_story_original)), (hp0_machine_starts, .inl (E.1, 8, .inl p0_machine_starts)), (hp0_machine_lengths, .inl (E.1, 8, .inl p0_machine_lengths)), (hp0_machine_stack, .inl (E.1, 40, .inl p0_machine_stack)), (hp0_others_letters, .inl (E.1, 4, .inl p0_others_letters)), (hp0_others_lengths, .inl (E.1, 4, .inl p0_others_lengths)), (hp0_others_bytes, .inl (E.1, 240, .inl p0_others_bytes)), (hp1_bytes, .inl (E.1, 1200, .inl p1_bytes))]) (As := [.ref hp1, .int (i2 + (4 : Int32)), .long (4 : Int64)]) (rest := []) ⟨hx, hb, hml, hown, hts⟩ (c_X3_reaches l G E hp1 hp1_bytes p1_size p1_overflowed hp0 hp0_story hp0_machine hp0_others u6.2.1 u6.2.2 p0_next p0_sawHead p0_sawMemory p0_sawStack p0_sawBlocks (i2 + (4 : Int32)) (4 : Int64) u9.1 u9.2.1 u9.2.2 hu9) ok_X3_reaches okv_X3_reaches wd_4a1b47ad ⟨Nat.le_of_ble_eq_true rfl, Nat.le_of_ble_eq_true rfl⟩ hK hP hD hS hA [11, 13] [0, 1, 2, 3, 4, 5, 6, 7, 8, 9, 10, 12] rfl rfl (by decide) (by decide) (by decide) (va_recv hK.1 hP (ci := 3) (q0 := 13) rfl rfl) rfl hl.1 rfl (Nat.le_of_ble_eq_true rfl) dX3_readChunk_37 ⟨Nat.le_of_ble_eq_true rfl, Nat.le_of_ble_eq_true rfl⟩ (fun H locs a10 hP hD hS => ?_)
      have hP : va_P G vwCl [(hp0_others, .inr (2, [.int p0_others_count, .ref hp0_others_letters, .ref hp0_others_lengths, .ref hp0_others_bytes])), (hp0_story, .inr (4, [.int p0_story_ram, .int p0_story_end, .ref hp0_story_original])), (hp0_machine, .inr (1, [.ref hp0_machine_memory, .int p0_machine_size, .ref hp0_machine_stack, .int p0_machine_depth, .ref hp0_machine_starts, .ref hp0_machine_lengths, .int p0_machine_blocks])), (hp0_machine_memory, .inl (E.1, 512, .inl p0_machine_memory)), (hp0_story_original, .inl (E.1, 512, .inl p0_story_original)), (hp0_machine_starts, .inl (E.1, 8, .inl p0_machine_starts)), (hp0_machine_lengths, .inl (E.1, 8, .inl p0_machine_lengths)), (hp0_machine_stack, .inl (E.1, 40, .inl p0_machine_stack)), (hp0_others_letters, .inl (E.1, 4, .inl p0_others_letters)), (hp0_others_lengths, .inl (E.1, 4, .inl p0_others_lengths)), (hp0_others_bytes, .inl (E.1, 240, .inl p0_others_bytes)), (hp1_bytes, .inl (E.1, 1200, .inl p1_bytes)), (hp1, .inr (0, [.ref hp1_bytes, .int p1_size, .int p1_overflowed])), (hp0, .inr (3, [.ref hp0_story, .ref hp0_machine, .ref hp0_others, .int u9.2.1, .int u9.2.2, .int p0_next, .int p0_sawHead, .int p0_sawMemory, .int p0_sawStack, .int p0_sawBlocks]))] H := hP
      have hD : va_D A [(hp0_others, .inr (2, [.int p0_others_count, .ref hp0_others_letters, .ref hp0_others_lengths, .ref hp0_others_bytes])), (hp0_story, .inr (4, [.int p0_story_ram, .int p0_story_end, .ref hp0_story_original])), (hp0_machine, .inr (1, [.ref hp0_machine_memory, .int p0_machine_size, .ref hp0_machine_stack, .int p0_machine_depth, .ref hp0_machine_starts, .ref hp0_machine_lengths, .int p0_machine_blocks])), (hp0_machine_memory, .inl (E.1, 512, .inl p0_machine_memory)), (hp0_story_original, .inl (E.1, 512, .inl p0_story_original)), (hp0_machine_starts, .inl (E.1, 8, .inl p0_machine_starts)), (hp0_machine_lengths, .inl (E.1, 8, .inl p0_machine_lengths)), (hp0_machine_stack, .inl (E.1, 40, .inl p0_machine_stack)), (hp0_others_letters, .inl (E.1, 4, .inl p0_others_letters)), (hp0_others_lengths, .inl (E.1, 4, .inl p0_others_lengths)), (hp0_others_bytes, .inl (E.1, 240, .inl p0_others_bytes)), (hp1_bytes, .inl (E.1, 1200, .inl p1_bytes)), (hp1, .inr (0, [.ref hp1_bytes, .int p1_size, .int p1_overflowed])), (hp0, .inr (3, [.ref hp0_story, .ref hp0_machine, .ref hp0_others, .int u9.2.1, .int u9.2.2, .int p0_next, .int p0_sawHead, .int p0_sawMemory, .int p0_sawStack, .int p0_sawBlocks]))] := hD
      refine lv_if_ne (tgt := 45) hx hb dX3_readChunk_40 (by decide) (fun c11 => ?_) (fun c11 => ?_)
      · replace h := if_f h c11
        refine lv_aload_n hx hb dX3_readChunk_45 rfl (lv_at hl 2 rfl) ?_
        refine lv_iload_n hx hb dX3_readChunk_46 rfl (lv_at hl 3 rfl) ?_
        refine lv_iconst (v := 4) hx hb dX3_readChunk_47 (by decide) ?_
        refine lv_iadd hx hb dX3_readChunk_48 ?_
        obtain ⟨u12, hu12, h⟩ := bd_t h
        refine cVi (wr := [(hp0_others, .inr (2, [.int p0_others_count, .ref hp0_others_letters, .ref hp0_others_lengths, .ref hp0_others_bytes])), (hp0_story, .inr (4, [.int p0_story_ram, .int p0_story_end, .ref hp0_story_original])), (hp0_machine, .inr (1, [.ref hp0_machine_memory, .int p0_machine_size, .ref hp0_machine_stack, .int p0_machine_depth, .ref hp0_machine_starts, .ref hp0_machine_lengths, .int p0_machine_blocks])), (hp0_machine_memory, .inl (E.1, 512, .inl p0_machine_memory)), (hp0_story_original, .inl (E.1, 512, .inl p0_story_original)), (hp0_machine_starts, .inl (E.1, 8, .inl p0_machine_starts)), (hp0_machine_lengths, .inl (E.1, 8, .inl p0_machine_lengths)), (hp0_machine_stack, .inl (E.1, 40, .inl p0_machine_stack)), (hp0_others_letters, .inl (E.1, 4, .inl p0_others_letters)), (hp0_others_lengths, .inl (E.1, 4, .inl p0_others_lengths)), (hp0_others_bytes, .inl (E.1, 240, .inl p0_others_bytes)), (hp0, .inr (3, [.ref hp0_story, .ref hp0_machine, .ref hp0_others, .int u9.2.1, .int u9.2.2, .int p0_next, .int p0_sawHead, .int p0_sawMemory, .int p0_sawStack, .int p0_sawBlocks]))]) (As := [.int (i2 + (4 : Int32))]) (rest := []) ⟨hx, hb, hml, hown, hts⟩ (c_X0_fourAt l G E hp1 hp1_bytes p1_size p1_overflowed p1_bytes (i2 + (4 : Int32)) u12 hu12) ok_X0_fourAt okv_X0_fourAt wd_6a67b9d3 ⟨Nat.le_of_ble_eq_true rfl, Nat.le_of_ble_eq_true rfl⟩ hK hP hD hS hA [12, 11] [0, 1, 2, 3, 4, 5, 6, 7, 8, 9, 10, 13] rfl rfl (by decide) (by decide) (by decide) (va_recv hK.1 hP (ci := 0) (q0 := 12) rfl rfl) rfl hl.1 rfl (Nat.le_of_ble_eq_true rfl) dX3_readChunk_49 ⟨Nat.le_of_ble_eq_true rfl, Nat.le_of_ble_eq_true rfl⟩ (fun H locs a13 hP hD hS => ?_)
        have hP : va_P G vwCl [(hp0_others, .inr (2, [.int p0_others_count, .ref hp0_others_letters, .ref hp0_others_lengths, .ref hp0_others_bytes])), (hp0_story, .inr (4, [.int p0_story_ram, .int p0_story_end, .ref hp0_story_original])), (hp0_machine, .inr (1, [.ref hp0_machine_memory, .int p0_machine_size, .ref hp0_machine_stack, .int p0_machine_depth, .ref hp0_machine_starts, .ref hp0_machine_lengths, .int p0_machine_blocks])), (hp0_machine_memory, .inl (E.1, 512, .inl p0_machine_memory)), (hp0_story_original, .inl (E.1, 512, .inl p0_story_original)), (hp0_machine_starts, .inl (E.1, 8, .inl p0_machine_starts)), (hp0_machine_lengths, .inl (E.1, 8, .inl p0_machine_lengths)), (hp0_machine_stack, .inl (E.1, 40, .inl p0_machine_stack)), (hp0_others_letters, .inl (E.1, 4, .inl p0_others_letters)), (hp0_others_lengths, .inl (E.1, 4, .inl p0_others_lengths)), (hp0_others_bytes, .inl (E.1, 240, .inl p0_others_bytes)), (hp0, .inr (3, [.ref hp0_story, .ref hp0_machine, .ref hp0_others, .int u9.2.1, .int u9.2.2, .int p0_next, .int p0_sawHead, .int p0_sawMemory, .int p0_sawStack, .int p0_sawBlocks])), (hp1, .inr (0, [.ref hp1_bytes, .int p1_size, .int p1_overflowed])), (hp1_bytes, .inl (E.1, 1200, .inl p1_bytes))] H := hP
        have hD : va_D A [(hp0_others, .inr (2, [.int p0_others_count, .ref hp0_others_letters, .ref hp0_others_lengths, .ref hp0_others_bytes])), (hp0_story, .inr (4, [.int p0_story_ram, .int p0_story_end, .ref hp0_story_original])), (hp0_machine, .inr (1, [.ref hp0_machine_memory, .int p0_machine_size, .ref hp0_machine_stack, .int p0_machine_depth, .ref hp0_machine_starts, .ref hp0_machine_lengths, .int p0_machine_blocks])), (hp0_machine_memory, .inl (E.1, 512, .inl p0_machine_memory)), (hp0_story_original, .inl (E.1, 512, .inl p0_story_original)), (hp0_machine_starts, .inl (E.1, 8, .inl p0_machine_starts)), (hp0_machine_lengths, .inl (E.1, 8, .inl p0_machine_lengths)), (hp0_machine_stack, .inl (E.1, 40, .inl p0_machine_stack)), (hp0_others_letters, .inl (E.1, 4, .inl p0_others_letters)), (hp0_others_lengths, .inl (E.1, 4, .inl p0_others_lengths)), (hp0_others_bytes, .inl (E.1, 240, .inl p0_others_bytes)), (hp0, .inr (3, [.ref hp0_story, .ref hp0_machine, .ref hp0_others, .int u9.2.1, .int u9.2.2, .int p0_next, .int p0_sawHead, .int p0_sawMemory, .int p0_sawStack, .int p0_sawBlocks])), (hp1, .inr (0, [.ref hp1_bytes, .int p1_size, .int p1_overflowed])), (hp1_bytes, .inl (E.1, 1200, .inl p1_bytes))] := hD
        refine lv_istore (lv' := [(4, .int u12), (3, .int u4), (0, .ref hp0), (1, .ref hp1), (2, .int i2)]) hx hb dX3_readChunk_52 hl (by decide) rfl (fun ls hl => ?_)
        refine lv_aload_n hx hb dX3_readChunk_54 rfl (lv_at hl 2 rfl) ?_
        refine lv_iload_n hx hb dX3_readChunk_55 rfl (lv_at hl 1 rfl) ?_
        refine lv_iload hx hb dX3_readChunk_56 (lv_at hl 0 rfl) ?_
        refine lv_iload_n hx hb dX3_readChunk_58 rfl (lv_at hl 4 rfl) ?_
        obtain ⟨u14, hu14, h⟩ := bd_t h
        refine cVi (wr := [(hp0_story, .inr (4, [.int p0_story_ram, .int p0_story_end, .ref hp0_story_original])), (hp0_machine, .inr (1, [.ref hp0_machine_memory, .int p0_machine_size, .ref hp0_machine_stack, .int p0_machine_depth, .ref hp0_machine_starts, .ref hp0_machine_lengths, .int p0_machine_blocks])), (hp0_machine_memory, .inl (E.1, 512, .inl p0_machine_memory)), (hp0_story_original, .inl (E.1, 512, .inl p0_story_original)), (hp0_machine_starts, .inl (E.1, 8, .inl p0_machine_starts)), (hp0_machine_lengths, .inl (E.1, 8, .inl p0_machine_lengths)), (hp0_machine_stack, .inl (E.1, 40, .inl p0_machine_stack)), (hp0_others_letters, .inl (E.1, 4, .inl p0_others_letters)), (hp0_others_lengths, .inl (E.1, 4, .inl p0_others_lengths)), (hp0_others_bytes, .inl (E.1, 240, .inl p0_others_bytes)), (hp1, .inr (0, [.ref hp1_bytes, .int p1_size, .int p1_overflowed])), (hp1_bytes, .inl (E.1, 1200, .inl p1_bytes))]) (As := [.int u4, .int u12, .int i2]) (rest := []) ⟨hx, hb, hml, hown, hts⟩ (c_X3_lengthMayBe l G E hp0 hp0_story hp0_machine hp0_others u9.2.1 u9.2.2 p0_next p0_sawHead p0_sawMemory p0_sawStack p0_sawBlocks p0_others_count hp0_others_letters hp0_others_lengths hp0_others_bytes u4 u12 i2 u14.1 u14.2.1 u14.2.2 hu14) ok_X3_lengthMayBe okv_X3_lengthMayBe wd_1d3bbb7c ⟨Nat.le_of_ble_eq_true rfl, Nat.le_of_ble_eq_true rfl⟩ hK hP hD hS hA [11, 0] [1, 2, 3, 4, 5, 6, 7, 8, 9, 10, 12, 13] rfl rfl (by decide) (by decide) (by decide) (va_recv hK.1 hP (ci := 3) (q0 := 11) rfl rfl) rfl hl.1 rfl (Nat.le_of_ble_eq_true rfl) dX3_readChunk_59 ⟨Nat.le_of_ble_eq_true rfl, Nat.le_of_ble_eq_true rfl⟩ (fun H locs a15 hP hD hS => ?_)
        have hP : va_P G vwCl [(hp0_story, .inr (4, [.int p0_story_ram, .int p0_story_end, .ref hp0_story_original])), (hp0_machine, .inr (1, [.ref hp0_machine_memory, .int p0_machine_size, .ref hp0_machine_stack, .int p0_machine_depth, .ref hp0_machine_starts, .ref hp0_machine_lengths, .int p0_machine_blocks])), (hp0_machine_memory, .inl (E.1, 512, .inl p0_machine_memory)), (hp0_story_original, .inl (E.1, 512, .inl p0_story_original)), (hp0_machine_starts, .inl (E.1, 8, .inl p0_machine_starts)), (hp0_machine_lengths, .inl (E.1, 8, .inl p0_machine_lengths)), (hp0_machine_stack, .inl (E.1, 40, .inl p0_machine_stack)), (hp0_others_letters, .inl (E.1, 4, .inl p0_others_letters)), (hp0_others_lengths, .inl (E.1, 4, .inl p0_others_lengths)), (hp0_others_bytes, .inl (E.1, 240, .inl p0_others_bytes)), (hp1, .inr (0, [.ref hp1_bytes, .int p1_size, .int p1_overflowed])), (hp1_bytes, .inl (E.1, 1200, .inl p1_bytes)), (hp0, .inr (3, [.ref hp0_story, .ref hp0_machine, .ref hp0_others, .int u14.2.1, .int u14.2.2, .int p0_next, .int p0_sawHead, .int p0_sawMemory, .int p0_sawStack, .int p0_sawBlocks])), (hp0_others, .inr (2, [.int p0_others_count, .ref hp0_others_letters, .ref hp0_others_lengths, .ref hp0_others_bytes]))] H := hP
        have hD : va_D A [(hp0_story, .inr (4, [.int p0_story_ram, .int p0_story_end, .ref hp0_story_original])), (hp0_machine, .inr (1, [.ref hp0_machine_memory, .int p0_machine_size, .ref hp0_machine_stack, .int p0_machine_depth, .ref hp0_machine_starts, .ref hp0_machine_lengths, .int p0_machine_blocks])), (hp0_machine_memory, .inl (E.1, 512, .inl p0_machine_memory)), (hp0_story_original, .inl (E.1, 512, .inl p0_story_original)), (hp0_machine_starts, .inl (E.1, 8, .inl p0_machine_starts)), (hp0_machine_lengths, .inl (E.1, 8, .inl p0_machine_lengths)), (hp0_machine_stack, .inl (E.1, 40, .inl p0_machine_stack)), (hp0_others_letters, .inl (E.1, 4, .inl p0_others_letters)), (hp0_others_lengths, .inl (E.1, 4, .inl p0_others_lengths)), (hp0_others_bytes, .inl (E.1, 240, .inl p0_others_bytes)), (hp1, .inr (0, [.ref hp1_bytes, .int p1_size, .int p1_overflowed])), (hp1_bytes, .inl (E.1, 1200, .inl p1_bytes)), (hp0, .inr (3, [.ref hp0_story, .ref hp0_machine, .ref hp0_others, .int u14.2.1, .int u14.2.2, .int p0_next, .int p0_sawHead, .int p0_sawMemory, .int p0_sawStack, .int p0_sawBlocks])), (hp0_others, .inr (2, [.int p0_others_count, .ref hp0_others_letters, .ref hp0_others_lengths, .ref hp0_others_bytes]))] := hD
        refine lv_if_eq (tgt := 76) hx hb dX3_readChunk_62 (by decide) (fun c16 => ?_) (fun c16 => ?_)
        · replace h := if_t h c16
          refine lv_iconst (v := 0) hx hb dX3_readChunk_76 (by decide) ?_
          cases h
          exact ret _ _ _ _ _ (fun _ => 0) rfl rfl (hP.sub [10, 12, 11, 13, 0, 1, 2, 3, 4, 5, 6, 7, 8, 9] rfl) (hD.sub [10, 12, 11, 13, 0, 1, 2, 3, 4, 5, 6, 7, 8, 9] (by decide) rfl) hS dX3_readChunk_77
        · replace h := if_f h c16
          refine lv_aload_n hx hb dX3_readChunk_65 rfl (lv_at hl 2 rfl) ?_
          refine lv_aload_n hx hb dX3_readChunk_66 rfl (lv_at hl 3 rfl) ?_
          refine lv_iload_n hx hb dX3_readChunk_67 rfl (lv_at hl 4 rfl) ?_
          refine lv_iload hx hb dX3_readChunk_68 (lv_at hl 0 rfl) ?_
          obtain ⟨u17, hu17, h⟩ := bd_t h
          refine cVi (wr := [(hp0_story, .inr (4, [.int p0_story_ram, .int p0_story_end, .ref hp0_story_original])), (hp0_machine, .inr (1, [.ref hp0_machine_memory, .int p0_machine_size, .ref hp0_machine_stack, .int p0_machine_depth, .ref hp0_machine_starts, .ref hp0_machine_lengths, .int p0_machine_blocks])), (hp0_machine_memory, .inl (E.1, 512, .inl p0_machine_memory)), (hp0_story_original, .inl (E.1, 512, .inl p0_story_original)), (hp0_machine_starts, .inl (E.1, 8, .inl p0_machine_starts)), (hp0_machine_lengths, .inl (E.1, 8, .inl p0_machine_lengths)), (hp0_machine_stack, .inl (E.1, 40, .inl p0_machine_stack)), (hp0_others_letters, .inl (E.1, 4, .inl p0_others_letters)), (hp0_others_lengths, .inl (E.1, 4, .inl p0_others_lengths)), (hp0_others_bytes, .inl (E.1, 240, .inl p0_others_bytes)), (hp0_others, .inr (2, [.int p0_others_count, .ref hp0_others_letters, .ref hp0_others_lengths, .ref hp0_others_bytes]))]) (As := [.ref hp1, .int i2, .int u12]) (rest := []) ⟨hx, hb, hml, hown, hts⟩ (c_X3_isWhole l G E hp1 hp1_bytes p1_size p1_overflowed hp0 hp0_story hp0_machine hp0_others u14.2.1 u14.2.2 p0_next p0_sawHead p0_sawMemory p0_sawStack p0_sawBlocks p1_bytes i2 u12 u17.1 u17.2.1 u17.2.2 hu17) ok_X3_isWhole okv_X3_isWhole wd_2308583d ⟨Nat.le_of_ble_eq_true rfl, Nat.le_of_ble_eq_true rfl⟩ hK hP hD hS hA [10, 12, 11] [0, 1, 2, 3, 4, 5, 6, 7, 8, 9, 13] rfl rfl (by decide) (by decide) (by decide) (va_recv hK.1 hP (ci := 3) (q0 := 12) rfl rfl) rfl hl.1 rfl (Nat.le_of_ble_eq_true rfl) dX3_readChunk_70 ⟨Nat.le_of_ble_eq_true rfl, Nat.le_of_ble_eq_true rfl⟩ (fun H locs a18 hP hD hS => ?_)
          have hP : va_P G vwCl [(hp0_story, .inr (4, [.int p0_story_ram, .int p0_story_end, .ref hp0_story_original])), (hp0_machine, .inr (1, [.ref hp0_machine_memory, .int p0_machine_size, .ref hp0_machine_stack, .int p0_machine_depth, .ref hp0_machine_starts, .ref hp0_machine_lengths, .int p0_machine_blocks])), (hp0_machine_memory, .inl (E.1, 512, .inl p0_machine_memory)), (hp0_story_original, .inl (E.1, 512, .inl p0_story_original)), (hp0_machine_starts, .inl (E.1, 8, .inl p0_machine_starts)), (hp0_machine_lengths, .inl (E.1, 8, .inl p0_machine_lengths)), (hp0_machine_stack, .inl (E.1, 40, .inl p0_machine_stack)), (hp0_others_letters, .inl (E.1, 4, .inl p0_others_letters)), (hp0_others_lengths, .inl (E.1, 4, .inl p0_others_lengths)), (hp0_others_bytes, .inl (E.1, 240, .inl p0_others_bytes)), (hp0_others, .inr (2, [.int p0_others_count, .ref hp0_others_letters, .ref hp0_others_lengths, .ref hp0_others_bytes])), (hp1, .inr (0, [.ref hp1_bytes, .int p1_size, .int p1_overflowed])), (hp0, .inr (3, [.ref hp0_story, .ref hp0_machine, .ref hp0_others, .int u17.2.1, .int u17.2.2, .int p0_next, .int p0_sawHead, .int p0_sawMemory, .int p0_sawStack, .int p0_sawBlocks])), (hp1_bytes, .inl (E.1, 1200, .inl p1_bytes))] H := hP
          have hD : va_D A [(hp0_story, .inr (4, [.int p0_story_ram, .int p0_story_end, .ref hp0_story_original])), (hp0_machine, .inr (1, [.ref hp0_machine_memory, .int p0_machine_size, .ref hp0_machine_stack, .int p0_machine_depth, .ref hp0_machine_starts, .ref hp0_machine_lengths, .int p0_machine_blocks])), (hp0_machine_memory, .inl (E.1, 512, .inl p0_machine_memory)), (hp0_story_original, .inl (E.1, 512, .inl p0_story_original)), (hp0_machine_starts, .inl (E.1, 8, .inl p0_machine_starts)), (hp0_machine_lengths, .inl (E.1, 8, .inl p0_machine_lengths)), (hp0_machine_stack, .inl (E.1, 40, .inl p0_machine_stack)), (hp0_others_letters, .inl (E.1, 4, .inl p0_others_letters)), (hp0_others_lengths, .inl (E.1, 4, .inl p0_others_lengths)), (hp0_others_bytes, .inl (E.1, 240, .inl p0_others_bytes)), (hp0_others, .inr (2, [.int p0_others_count, .ref hp0_others_letters, .ref hp0_others_lengths, .ref hp0_others_bytes])), (hp1, .inr (0, [.ref hp1_bytes, .int p1_size, .int p1_overflowed])), (hp0, .inr (3, [.ref hp0_story, .ref hp0_machine, .ref hp0_others, .int u17.2.1, .int u17.2.2, .int p0_next, .int p0_sawHead, .int p0_sawMemory, .int p0_sawStack, .int p0_sawBlocks])), (hp1_bytes, .inl (E.1, 1200, .inl p1_bytes))] := hD
          refine lv_if_ne (tgt := 78) hx hb dX3_readChunk_73 (by decide) (fun c19 => ?_) (fun c19 => ?_)
          · replace h := if_f h c19
            refine lv_aload_n hx hb dX3_readChunk_78 rfl (lv_at hl 2 rfl) ?_
            refine lv_iload_n hx hb dX3_readChunk_79 rfl (lv_at hl 4 rfl) ?_
            refine lv_bipush (v := 8) hx hb dX3_readChunk_80 (by decide) ?_
            refine lv_iadd hx hb dX3_readChunk_82 ?_
            refine lv_iload hx hb dX3_readChunk_83 (lv_at hl 0 rfl) ?_
            refine lv_iadd hx hb dX3_readChunk_85 ?_
            refine lv_iload hx hb dX3_readChunk_86 (lv_at hl 0 rfl) ?_
            refine lv_iconst (v := 1) hx hb dX3_readChunk_88 (by decide) ?_
            refine lv_iand hx hb dX3_readChunk_89 ?_
            refine lv_iadd hx hb dX3_readChunk_90 ?_
            refine lv_topi (fun x20 ex20 => ?_)
            replace h := bn_t h ex20
            refine putF (D := G) (ci := 3) (v := .int x20) (ty := .int) (C := RX3) (T := TX3) (N := 10) hx hb hts inG_X3 tyX3 tyX3_ok nmX3 hown hK.1 hP hD hS 12 rfl rfl 5 (by decide) tf_X3_5 (hts _ wd_ba30ed8e) pd_I rfl rfl (Nat.le_of_ble_eq_true rfl) dX3_readChunk_91 (fun H locs hP hD hS => ?_)
            have hP : va_P G vwCl [(hp0_story, .inr (4, [.int p0_story_ram, .int p0_story_end, .ref hp0_story_original])), (hp0_machine, .inr (1, [.ref hp0_machine_memory, .int p0_machine_size, .ref hp0_machine_stack, .int p0_machine_depth, .ref hp0_machine_starts, .ref hp0_machine_lengths, .int p0_machine_blocks])), (hp0_machine_memory, .inl (E.1, 512, .inl p0_machine_memory)), (hp0_story_original, .inl (E.1, 512, .inl p0_story_original)), (hp0_machine_starts, .inl (E.1, 8, .inl p0_machine_starts)), (hp0_machine_lengths, .inl (E.1, 8, .inl p0_machine_lengths)), (hp0_machine_stack, .inl (E.1, 40, .inl p0_machine_stack)), (hp0_others_letters, .inl (E.1, 4, .inl p0_others_letters)), (hp0_others_lengths, .inl (E.1, 4, .inl p0_others_lengths)), (hp0_others_bytes, .inl (E.1, 240, .inl p0_others_bytes)), (hp0_others, .inr (2, [.int p0_others_count, .ref hp0_others_letters, .ref hp0_others_lengths, .ref hp0_others_bytes])), (hp1, .inr (0, [.ref hp1_bytes, .int p1_size, .int p1_overflowed])), (hp0, .inr (3, [.ref hp0_story, .ref hp0_machine, .ref hp0_others, .int u17.2.1, .int u17.2.2, .int x20, .int p0_sawHead, .int p0_sawMemory, .int p0_sawStack, .int p0_sawBlocks])), (hp1_bytes, .inl (E.1, 1200, .inl p1_bytes))] H := hP
            have hD : va_D A [(hp0_story, .inr (4, [.int p0_story_ram, .int p0_story_end, .ref hp0_story_original])), (hp0_machine, .inr (1, [.ref hp0_machine_memory, .int p0_machine_size, .ref hp0_machine_stack, .int p0_machine_depth, .ref hp0_machine_starts, .ref hp0_machine_lengths, .int p0_machine_blocks])), (hp0_machine_memory, .inl (E.1, 512, .inl p0_machine_memory)), (hp0_story_original, .inl (E.1, 512, .inl p0_story_original)), (hp0_machine_starts, .inl (E.1, 8, .inl p0_machine_starts)), (hp0_machine_lengths, .inl (E.1, 8, .inl p0_machine_lengths)), (hp0_machine_stack, .inl (E.1, 40, .inl p0_machine_stack)), (hp0_others_letters, .inl (E.1, 4, .inl p0_others_letters)), (hp0_others_lengths, .inl (E.1, 4, .inl p0_others_lengths)), (hp0_others_bytes, .inl (E.1, 240, .inl p0_others_bytes)), (hp0_others, .inr (2, [.int p0_others_count, .ref hp0_others_letters, .ref hp0_others_lengths, .ref hp0_others_bytes])), (hp1, .inr (0, [.ref hp1_bytes, .int p1_size, .int p1_overflowed])), (hp0, .inr (3, [.ref hp0_story, .ref hp0_machine, .ref hp0_others, .int u17.2.1, .int u17.2.2, .int x20, .int p0_sawHead, .int p0_sawMemory, .int p0_sawStack, .int p0_sawBlocks])), (hp1_bytes, .inl (E.1, 1200, .inl p1_bytes))] := hD
            refine lv_aload_n hx hb dX3_readChunk_94 rfl (lv_at hl 2 rfl) ?_
            refine lv_aload_n hx hb dX3_readChunk_95 rfl (lv_at hl 3 rfl) ?_
            refine lv_iload_n hx hb dX3_readChunk_96 rfl (lv_at hl 1 rfl) ?_
            refine lv_iload_n hx hb dX3_readChunk_97 rfl (lv_at hl 4 rfl) ?_
            refine lv_iload hx hb dX3_readChunk_98 (lv_at hl 0 rfl) ?_
            obtain ⟨u21, hu21, h⟩ := bd_t h
            refine cVi (wr := []) (As := [.ref hp1, .int u4, .int i2, .int u12]) (rest := []) ⟨hx, hb, hml, hown, hts⟩ (c_X3_readInside l G E N hp0 hp0_story hp0_machine hp0_others u17.2.1 u17.2.2 x20 p0_sawHead p0_sawMemory p0_sawStack p0_sawBlocks hp1 hp1_bytes p1_size p1_overflowed p1_bytes p0_story_ram p0_story_end hp0_story_original hp0_machine_memory p0_machine_size hp0_machine_stack p0_machine_depth hp0_machine_starts hp0_machine_lengths p0_machine_blocks p0_machine_memory p0_story_original p0_machine_starts p0_machine_lengths p0_machine_stack p0_others_count hp0_others_letters hp0_others_lengths hp0_others_bytes p0_others_letters p0_others_lengths p0_others_bytes u4 i2 u12 u21.1 u21.2.1 u21.2.2.1 u21.2.2.2.1 u21.2.2.2.2.1 u21.2.2.2.2.2.1 u21.2.2.2.2.2.2.1 u21.2.2.2.2.2.2.2.1 u21.2.2.2.2.2.2.2.2.1 u21.2.2.2.2.2.2.2.2.2.1 u21.2.2.2.2.2.2.2.2.2.2.1 u21.2.2.2.2.2.2.2.2.2.2.2.1 u21.2.2.2.2.2.2.2.2.2.2.2.2.1 u21.2.2.2.2.2.2.2.2.2.2.2.2.2.1 u21.2.2.2.2.2.2.2.2.2.2.2.2.2.2.1 u21.2.2.2.2.2.2.2.2.2.2.2.2.2.2.2.1 u21.2.2.2.2.2.2.2.2.2.2.2.2.2.2.2.2.1 u21.2.2.2.2.2.2.2.2.2.2.2.2.2.2.2.2.2 hu21) ok_X3_readInside okv_X3_readInside wd_521e2947 ⟨Nat.le_of_ble_eq_true rfl, Nat.le_of_ble_eq_true rfl⟩ hK hP hD hS hA [12, 11, 13, 0, 1, 2, 3, 4, 5, 6, 10, 7, 8, 9] [] rfl rfl (by decide) (by decide) (by decide) (va_recv hK.1 hP (ci := 3) (q0 := 12) rfl rfl) rfl hl.1 rfl (Nat.le_of_ble_eq_true rfl) dX3_readChunk_100 ⟨Nat.le_of_ble_eq_true rfl, Nat.le_of_ble_eq_true rfl⟩ (fun H locs a22 hP hD hS => ?_)
            have hP : va_P G vwCl [(hp0, .inr (3, [.ref hp0_story, .ref hp0_machine, .ref hp0_others, .int u21.2.1, .int u21.2.2.1, .int x20, .int u21.2.2.2.1, .int u21.2.2.2.2.1, .int u21.2.2.2.2.2.1, .int u21.2.2.2.2.2.2.1])), (hp1, .inr (0, [.ref hp1_bytes, .int p1_size, .int p1_overflowed])), (hp1_bytes, .inl (E.1, 1200, .inl p1_bytes)), (hp0_story, .inr (4, [.int p0_story_ram, .int p0_story_end, .ref hp0_story_original])), (hp0_machine, .inr (1, [.ref hp0_machine_memory, .int u21.2.2.2.2.2.2.2.2.1, .ref hp0_machine_stack, .int u21.2.2.2.2.2.2.2.2.2.2.1, .ref hp0_machine_starts, .ref hp0_machine_lengths, .int u21.2.2.2.2.2.2.2.2.2.2.2.2.2.1])), (hp0_machine_memory, .inl (E.1, 512, .inl u21.2.2.2.2.2.2.2.1)), (hp0_story_original, .inl (E.1, 512, .inl p0_story_original)), (hp0_machine_starts, .inl (E.1, 8, .inl u21.2.2.2.2.2.2.2.2.2.2.2.1)), (hp0_machine_lengths, .inl (E.1, 8, .inl u21.2.2.2.2.2.2.2.2.2.2.2.2.1)), (hp0_machine_stack, .inl (E.1, 40, .inl u21.2.2.2.2.2.2.2.2.2.1)), (hp0_others, .inr (2, [.int u21.2.2.2.2.2.2.2.2.2.2.2.2.2.2.1, .ref hp0_others_letters, .ref hp0_others_lengths, .ref hp0_others_bytes])), (hp0_others_letters, .inl (E.1, 4, .inl u21.2.2.2.2.2.2.2.2.2.2.2.2.2.2.2.1)), (hp0_others_lengths, .inl (E.1, 4, .inl u21.2.2.2.2.2.2.2.2.2.2.2.2.2.2.2.2.1)), (hp0_others_bytes, .inl (E.1, 240, .inl u21.2.2.2.2.2.2.2.2.2.2.2.2.2.2.2.2.2))] H := hP
            have hD : va_D A [(hp0, .inr (3, [.ref hp0_story, .ref hp0_machine, .ref hp0_others, .int u21.2.1, .int u21.2.2.1, .int x20, .int u21.2.2.2.1, .int u21.2.2.2.2.1, .int u21.2.2.2.2.2.1, .int u21.2.2.2.2.2.2.1])), (hp1, .inr (0, [.ref hp1_bytes, .int p1_size, .int p1_overflowed])), (hp1_bytes, .inl (E.1, 1200, .inl p1_bytes)), (hp0_story, .inr (4, [.int p0_story_ram, .int p0_story_end, .ref hp0_story_original])), (hp0_machine, .inr (1, [.ref hp0_machine_memory, .int u21.2.2.2.2.2.2.2.2.1, .ref hp0_machine_stack, .int u21.2.2.2.2.2.2.2.2.2.2.1, .ref hp0_machine_starts, .ref hp0_machine_lengths, .int u21.2.2.2.2.2.2.2.2.2.2.2.2.2.1])), (hp0_machine_memory, .inl (E.1, 512, .inl u21.2.2.2.2.2.2.2.1)), (hp0_story_original, .inl (E.1, 512, .inl p0_story_original)), (hp0_machine_starts, .inl (E.1, 8, .inl u21.2.2.2.2.2.2.2.2.2.2.2.1)), (hp0_machine_lengths, .inl (E.1, 8, .inl u21.2.2.2.2.2.2.2.2.2.2.2.2.1)), (hp0_machine_stack, .inl (E.1, 40, .inl u21.2.2.2.2.2.2.2.2.2.1)), (hp0_others, .inr (2, [.int u21.2.2.2.2.2.2.2.2.2.2.2.2.2.2.1, .ref hp0_others_letters, .ref hp0_others_lengths, .ref hp0_others_bytes])), (hp0_others_letters, .inl (E.1, 4, .inl u21.2.2.2.2.2.2.2.2.2.2.2.2.2.2.2.1)), (hp0_others_lengths, .inl (E.1, 4, .inl u21.2.2.2.2.2.2.2.2.2.2.2.2.2.2.2.2.1)), (hp0_others_bytes, .inl (E.1, 240, .inl u21.2.2.2.2.2.2.2.2.2.2.2.2.2.2.2.2.2))] := hD
            obtain ⟨g23, h⟩ := gbo_t h
            cases h
            exact ret _ _ _ _ _ (fun _ => 0) rfl (bo_nar g23) (hP.sub [1, 0, 2, 10, 3, 4, 5, 6, 7, 8, 9, 11, 12, 13] rfl) (hD.sub [1, 0, 2, 10, 3, 4, 5, 6, 7, 8, 9, 11, 12, 13] (by decide) rfl) hS dX3_readChunk_103
          · replace h := if_t h c19
            refine lv_iconst (v := 0) hx hb dX3_readChunk_76 (by decide) ?_
            cases h
            exact ret _ _ _ _ _ (fun _ => 0) rfl rfl (hP.sub [11, 12, 13, 10, 0, 1, 2, 3, 4, 5, 6, 7, 8, 9] rfl) (hD.sub [11, 12, 13, 10, 0, 1, 2, 3, 4, 5, 6, 7, 8, 9] (by decide) rfl) hS dX3_readChunk_77
      · replace h := if_t h c11
        refine lv_iconst (v := 0) hx hb dX3_readChunk_43 (by decide) ?_
        cases h
        exact ret _ _ _ _ _ (fun _ => 0) rfl rfl (hP.sub [12, 13, 11, 0, 1, 2, 3, 4, 5, 6, 7, 8, 9, 10] rfl) (hD.sub [12, 13, 11, 0, 1, 2, 3, 4, 5, 6, 7, 8, 9, 10] (by decide) rfl) hS dX3_readChunk_44
  · replace h := if_t h c3
    refine lv_iconst (v := 0) hx hb dX3_readChunk_12 (by decide) ?_
    cases h
    exact ret _ _ _ _ _ (fun _ => 0) rfl rfl (hP.sub [12, 13, 0, 1, 2, 3, 4, 5, 6, 7, 8, 9, 10, 11] rfl) (hD.sub [12, 13, 0, 1, 2, 3, 4, 5, 6, 7, 8, 9, 10, 11] (by decide) rfl) hS dX3_readChunk_13
def B_X3_read_16 (N : Nat) (p0_story_ram : Int32) (p0_story_end : Int32) (p0_story_original : (Nat → Int32)) (p1_size : Int32) (p1_bytes : (Nat → Int32)) (rec16 : Int32 → Int32 → Int32 → Int32 → Int32 → Int32 → Int32 → (Nat → Int32) → Int32 → (Nat → Int32) → Int32 → (Nat → Int32) → (Nat → Int32) → Int32 → Int32 → (Nat → Int32) → (Nat → Int32) → (Nat → Int32) → Int32 → Option (Int32 × Int32 × Int32 × Int32 × Int32 × Int32 × Int32 × Int32 × (Nat → Int32) × Int32 × (Nat → Int32) × Int32 × (Nat → Int32) × (Nat → Int32) × Int32 × Int32 × (Nat → Int32) × (Nat → Int32) × (Nat → Int32))) (K53 : Int32 → Int32 → Int32 → Int32 → Int32 → Int32 → Int32 → (Nat → Int32) → Int32 → (Nat → Int32) → Int32 → (Nat → Int32) → (Nat → Int32) → Int32 → Int32 → (Nat → Int32) → (Nat → Int32) → (Nat → Int32) → Int32 → Option (Int32 × Int32 × Int32 × Int32 × Int32 × Int32 × Int32 × Int32 × (Nat → Int32) × Int32 × (Nat → Int32) × Int32 × (Nat → Int32) × (Nat → Int32) × Int32 × Int32 × (Nat → Int32) × (Nat → Int32) × (Nat → Int32))) (z6 : Int32) (z7 : Int32) (z8 : Int32) (z9 : Int32) (z10 : Int32) (z11 : Int32) (z12 : Int32) (z13 : (Nat → Int32)) (z14 : Int32) (z15 : (Nat → Int32)) (z16 : Int32) (z17 : (Nat → Int32)) (z18 : (Nat → Int32)) (z19 : Int32) (z20 : Int32) (z21 : (Nat → Int32)) (z22 : (Nat → Int32)) (z23 : (Nat → Int32)) (z24 : Int32) : Option (Int32 × Int32 × Int32 × Int32 × Int32 × Int32 × Int32 × Int32 × (Nat → Int32) × Int32 × (Nat → Int32) × Int32 × (Nat → Int32) × (Nat → Int32) × Int32 × Int32 × (Nat → Int32) × (Nat → Int32) × (Nat → Int32)) :=
  if (9 : Int32) ≤ z24 then (
  K53 z6 z7 z8 z9 z10 z11 z12 z13 z14 z15 z16 z17 z18 z19 z20 z21 z22 z23 z24)
  else
  if p1_size ≤ z8 then (
  K53 z6 z7 z8 z9 z10 z11 z12 z13 z14 z15 z16 z17 z18 z19 z20 z21 z22 z23 z24)
  else
  bd (f_X3_readChunk N z8 p1_size z6 z7 z8 z9 z10 z11 z12 p1_bytes z20 p0_story_ram p0_story_end z14 z16 z19 z13 p0_story_original z17 z18 z15 z21 z22 z23) fun u27 =>
  if u27.1 = 0 then (
  some ((0 : Int32), u27.2.1, u27.2.2.1, u27.2.2.2.1, u27.2.2.2.2.1, u27.2.2.2.2.2.1, u27.2.2.2.2.2.2.1, u27.2.2.2.2.2.2.2.1, u27.2.2.2.2.2.2.2.2.1, u27.2.2.2.2.2.2.2.2.2.1, u27.2.2.2.2.2.2.2.2.2.2.1, u27.2.2.2.2.2.2.2.2.2.2.2.1, u27.2.2.2.2.2.2.2.2.2.2.2.2.1, u27.2.2.2.2.2.2.2.2.2.2.2.2.2.1, u27.2.2.2.2.2.2.2.2.2.2.2.2.2.2.1, u27.2.2.2.2.2.2.2.2.2.2.2.2.2.2.2.1, u27.2.2.2.2.2.2.2.2.2.2.2.2.2.2.2.2.1, u27.2.2.2.2.2.2.2.2.2.2.2.2.2.2.2.2.2.1, u27.2.2.2.2.2.2.2.2.2.2.2.2.2.2.2.2.2.2))
  else
  bn (z24 + 1) fun x30 =>
  rec16 u27.2.1 u27.2.2.1 u27.2.2.2.1 u27.2.2.2.2.1 u27.2.2.2.2.2.1 u27.2.2.2.2.2.2.1 u27.2.2.2.2.2.2.2.1 u27.2.2.2.2.2.2.2.2.1 u27.2.2.2.2.2.2.2.2.2.1 u27.2.2.2.2.2.2.2.2.2.2.1 u27.2.2.2.2.2.2.2.2.2.2.2.1 u27.2.2.2.2.2.2.2.2.2.2.2.2.1 u27.2.2.2.2.2.2.2.2.2.2.2.2.2.1 u27.2.2.2.2.2.2.2.2.2.2.2.2.2.2.1 u27.2.2.2.2.2.2.2.2.2.2.2.2.2.2.2.1 u27.2.2.2.2.2.2.2.2.2.2.2.2.2.2.2.2.1 u27.2.2.2.2.2.2.2.2.2.2.2.2.2.2.2.2.2.1 u27.2.2.2.2.2.2.2.2.2.2.2.2.2.2.2.2.2.2 x30
def L_X3_read_16 (N : Nat) (p0_story_ram : Int32) (p0_story_end : Int32) (p0_story_original : (Nat → Int32)) (p1_size : Int32) (p1_bytes : (Nat → Int32)) (K53 : Int32 → Int32 → Int32 → Int32 → Int32 → Int32 → Int32 → (Nat → Int32) → Int32 → (Nat → Int32) → Int32 → (Nat → Int32) → (Nat → Int32) → Int32 → Int32 → (Nat → Int32) → (Nat → Int32) → (Nat → Int32) → Int32 → Option (Int32 × Int32 × Int32 × Int32 × Int32 × Int32 × Int32 × Int32 × (Nat → Int32) × Int32 × (Nat → Int32) × Int32 × (Nat → Int32) × (Nat → Int32) × Int32 × Int32 × (Nat → Int32) × (Nat → Int32) × (Nat → Int32))) : Nat → Int32 → Int32 → Int32 → Int32 → Int32 → Int32 → Int32 → (Nat → Int32) → Int32 → (Nat → Int32) → Int32 → (Nat → Int32) → (Nat → Int32) → Int32 → Int32 → (Nat → Int32) → (Nat → Int32) → (Nat → Int32) → Int32 → Option (Int32 × Int32 × Int32 × Int32 × Int32 × Int32 × Int32 × Int32 × (Nat → Int32) × Int32 × (Nat → Int32) × Int32 × (Nat → Int32) × (Nat → Int32) × Int32 × Int32 × (Nat → Int32) × (Nat → Int32) × (Nat → Int32))
    | 0, _, _, _, _, _, _, _, _, _, _, _, _, _, _, _, _, _, _, _ => none
    | n + 1, z6, z7, z8, z9, z10, z11, z12, z13, z14, z15, z16, z17, z18, z19, z20, z21, z22, z23, z24 => B_X3_read_16 N p0_story_ram p0_story_end p0_story_original p1_size p1_bytes (fun z6 z7 z8 z9 z10 z11 z12 z13 z14 z15 z16 z17 z18 z19 z20 z21 z22 z23 z24 => L_X3_read_16 N p0_story_ram p0_story_end p0_story_original p1_size p1_bytes K53 n z6 z7 z8 z9 z10 z11 z12 z13 z14 z15 z16 z17 z18 z19 z20 z21 z22 z23 z24) K53 z6 z7 z8 z9 z10 z11 z12 z13 z14 z15 z16 z17 z18 z19 z20 z21 z22 z23 z24
def J_X3_read_67 (p1_size : Int32) (z8 : Int32) (z9 : Int32) (z10 : Int32) (z11 : Int32) (z12 : Int32) (z13 : (Nat → Int32)) (z14 : Int32) (z15 : (Nat → Int32)) (z16 : Int32) (z17 : (Nat → Int32)) (z18 : (Nat → Int32)) (z19 : Int32) (z20 : Int32) (z21 : (Nat → Int32)) (z22 : (Nat → Int32)) (z23 : (Nat → Int32))  : Option (Int32 × Int32 × Int32 × Int32 × Int32 × Int32 × Int32 × Int32 × (Nat → Int32) × Int32 × (Nat → Int32) × Int32 × (Nat → Int32) × (Nat → Int32) × Int32 × Int32 × (Nat → Int32) × (Nat → Int32) × (Nat → Int32)) :=
  bd (f_X3_fail (8 : Int32) p1_size) fun u32 =>
  if u32.1 = 0 then (
  some ((0 : Int32), u32.2.1, u32.2.2, z8, z9, z10, z11, z12, z13, z14, z15, z16, z17, z18, z19, z20, z21, z22, z23))
  else
  some ((1 : Int32), u32.2.1, u32.2.2, z8, z9, z10, z11, z12, z13, z14, z15, z16, z17, z18, z19, z20, z21, z22, z23)
def f_X3_read (N : Nat) (p0_story_ram : Int32) (p0_story_end : Int32) (p0_story_original : (Nat → Int32)) (p0_machine_memory : (Nat → Int32)) (p1_size : Int32) (p1_bytes : (Nat → Int32)) (p0_machine_starts : (Nat → Int32)) (p0_machine_lengths : (Nat → Int32)) (p0_machine_stack : (Nat → Int32)) (p0_others_letters : (Nat → Int32)) (p0_others_lengths : (Nat → Int32)) (p0_others_bytes : (Nat → Int32)) : Option (Int32 × Int32 × Int32 × Int32 × Int32 × Int32 × Int32 × Int32 × (Nat → Int32) × Int32 × (Nat → Int32) × Int32 × (Nat → Int32) × (Nat → Int32) × Int32 × Int32 × (Nat → Int32) × (Nat → Int32) × (Nat → Int32)) :=
  bd (f_X3_forget p0_story_end p0_story_original p0_machine_memory) fun u1 =>
  bd (f_X3_readFront N p1_size u1.1 u1.2.1 p1_bytes) fun u3 =>
  if u3.1 = 0 then (
  some ((0 : Int32), u3.2.1, u3.2.2, u1.2.2.1, u1.2.2.2.1, u1.2.2.2.2.1, u1.2.2.2.2.2.1, u1.2.2.2.2.2.2.1, u1.2.2.2.2.2.2.2.1, u1.2.2.2.2.2.2.2.2.1, p0_machine_stack, u1.2.2.2.2.2.2.2.2.2.1, p0_machine_starts, p0_machine_lengths, u1.2.2.2.2.2.2.2.2.2.2.1, u1.2.2.2.2.2.2.2.2.2.2.2, p0_others_letters, p0_others_lengths, p0_others_bytes))
  else
  L_X3_read_16 N p0_story_ram p0_story_end p0_story_original p1_size p1_bytes 
  (fun z6 z7 z8 z9 z10 z11 z12 z13 z14 z15 z16 z17 z18 z19 z20 z21 z22 z23 z24 =>
  if z10 = 0 then (
  J_X3_read_67 p1_size z8 z9 z10 z11 z12 z13 z14 z15 z16 z17 z18 z19 z20 z21 z22 z23)
  else
  if z11 = 0 then (
  J_X3_read_67 p1_size z8 z9 z10 z11 z12 z13 z14 z15 z16 z17 z18 z19 z20 z21 z22 z23)
  else
  some ((1 : Int32), z6, z7, z8, z9, z10, z11, z12, z13, z14, z15, z16, z17, z18, z19, z20, z21, z22, z23)) N u3.2.1 u3.2.2 u1.2.2.1 u1.2.2.2.1 u1.2.2.2.2.1 u1.2.2.2.2.2.1 u1.2.2.2.2.2.2.1 u1.2.2.2.2.2.2.2.1 u1.2.2.2.2.2.2.2.2.1 p0_machine_stack u1.2.2.2.2.2.2.2.2.2.1 p0_machine_starts p0_machine_lengths u1.2.2.2.2.2.2.2.2.2.2.1 u1.2.2.2.2.2.2.2.2.2.2.2 p0_others_letters p0_others_lengths p0_others_bytes (0 : Int32)
abbrev w_rm_X3_read : Room := { frames := 5, cells := 0, slots := 0, locals := 121 }
set_option maxHeartbeats 4000000 in
set_option maxRecDepth 100000 in
theorem c_X3_read (l : Launch) (G : va_G) (E : ClassId × ClassId × ClassId) (N : Nat) (hp0 : Nat) (hp0_story : Nat) (hp0_machine : Nat) (hp0_others : Nat) (p0_fault : Int32) (p0_place : Int32) (p0_next : Int32) (p0_sawHead : Int32) (p0_sawMemory : Int32) (p0_sawStack : Int32) (p0_sawBlocks : Int32) (p0_story_ram : Int32) (p0_story_end : Int32) (hp0_story_original : Nat) (hp0_machine_memory : Nat) (p0_machine_size : Int32) (hp0_machine_stack : Nat) (p0_machine_depth : Int32) (hp0_machine_starts : Nat) (hp0_machine_lengths : Nat) (p0_machine_blocks : Int32) (p0_story_original : (Nat → Int32)) (p0_machine_memory : (Nat → Int32)) (p0_others_count : Int32) (hp0_others_letters : Nat) (hp0_others_lengths : Nat) (hp0_others_bytes : Nat) (hp1 : Nat) (hp1_bytes : Nat) (p1_size : Int32) (p1_overflowed : Int32) (p1_bytes : (Nat → Int32)) (p0_machine_starts : (Nat → Int32)) (p0_machine_lengths : (Nat → Int32)) (p0_machine_stack : (Nat → Int32)) (p0_others_letters : (Nat → Int32)) (p0_others_lengths : (Nat → Int32)) (p0_others_bytes : (Nat → Int32)) (r : Int32) (o0 : Int32) (o1 : Int32) (o2 : Int32) (o3 : Int32) (o4 : Int32) (o5 : Int32) (o6 : Int32) (o7 : (Nat → Int32)) (o8 : Int32) (o9 : (Nat → Int32)) (o10 : Int32) (o11 : (Nat → Int32)) (o12 : (Nat → Int32)) (o13 : Int32) (o14 : Int32) (o15 : (Nat → Int32)) (o16 : (Nat → Int32)) (o17 : (Nat → Int32)) (h : f_X3_read N p0_story_ram p0_story_end p0_story_original p0_machine_memory p1_size p1_bytes p0_machine_starts p0_machine_lengths p0_machine_stack p0_others_letters p0_others_lengths p0_others_bytes = some (r, o0, o1, o2, o3, o4, o5, o6, o7, o8, o9, o10, o11, o12, o13, o14, o15, o16, o17)) : MI l G E yX3_read cX3_read 3 .boolean w_rm_X3_read [.ref hp0, .ref hp1] [(hp0, .inr (3, [.ref hp0_story, .ref hp0_machine, .ref hp0_others, .int p0_fault, .int p0_place, .int p0_next, .int p0_sawHead, .int p0_sawMemory, .int p0_sawStack, .int p0_sawBlocks])), (hp0_story, .inr (4, [.int p0_story_ram, .int p0_story_end, .ref hp0_story_original])), (hp0_machine, .inr (1, [.ref hp0_machine_memory, .int p0_machine_size, .ref hp0_machine_stack, .int p0_machine_depth, .ref hp0_machine_starts, .ref hp0_machine_lengths, .int p0_machine_blocks])), (hp0_story_original, .inl (E.1, 512, .inl p0_story_original)), (hp0_machine_memory, .inl (E.1, 512, .inl p0_machine_memory)), (hp0_others, .inr (2, [.int p0_others_count, .ref hp0_others_letters, .ref hp0_others_lengths, .ref hp0_others_bytes])), (hp1, .inr (0, [.ref hp1_bytes, .int p1_size, .int p1_overflowed])), (hp1_bytes, .inl (E.1, 1200, .inl p1_bytes)), (hp0_machine_starts, .inl (E.1, 8, .inl p0_machine_starts)), (hp0_machine_lengths, .inl (E.1, 8, .inl p0_machine_lengths)), (hp0_machine_stack, .inl (E.1, 40, .inl p0_machine_stack)), (hp0_others_letters, .inl (E.1, 4, .inl p0_others_letters)), (hp0_others_lengths, .inl (E.1, 4, .inl p0_others_lengths)), (hp0_others_bytes, .inl (E.1, 240, .inl p0_others_bytes))] r (fun a => [(hp0, .inr (3, [.ref hp0_story, .ref hp0_machine, .ref hp0_others, .int o0, .int o1, .int o2, .int o3, .int o4, .int o5, .int o6])), (hp0_story, .inr (4, [.int p0_story_ram, .int p0_story_end, .ref hp0_story_original])), (hp0_machine, .inr (1, [.ref hp0_machine_memory, .int o8, .ref hp0_machine_stack, .int o10, .ref hp0_machine_starts, .ref hp0_machine_lengths, .int o13])), (hp0_story_original, .inl (E.1, 512, .inl p0_story_original)), (hp0_machine_memory, .inl (E.1, 512, .inl o7)), (hp0_others, .inr (2, [.int o14, .ref hp0_others_letters, .ref hp0_others_lengths, .ref hp0_others_bytes])), (hp1, .inr (0, [.ref hp1_bytes, .int p1_size, .int p1_overflowed])), (hp1_bytes, .inl (E.1, 1200, .inl p1_bytes)), (hp0_machine_starts, .inl (E.1, 8, .inl o11)), (hp0_machine_lengths, .inl (E.1, 8, .inl o12)), (hp0_machine_stack, .inl (E.1, 40, .inl o9)), (hp0_others_letters, .inl (E.1, 4, .inl o15)), (hp0_others_lengths, .inl (E.1, 4, .inl o16)), (hp0_others_bytes, .inl (E.1, 240, .inl o17))]) 0 0 := by
  refine MI_of (by decide) (Nat.le_of_ble_eq_true rfl) ?_
  intro p e s m args below meth c A Q hx hb hml hown hts hK hA hP hD hS ret ls hl
  replace hl : lv_has ls 3 [(0, .ref hp0), (1, .ref hp1)] := hl
  unfold f_X3_read at h
  refine lv_aload_n hx hb dX3_read_0 rfl (lv_at hl 0 rfl) ?_
  obtain ⟨u1, hu1, h⟩ := bd_t h
  refine cVv (wr := [(hp1, .inr (0, [.ref hp1_bytes, .int p1_size, .int p1_overflowed])), (hp1_bytes, .inl (E.1, 1200, .inl p1_bytes)), (hp0_machine_starts, .inl (E.1, 8, .inl p0_machine_starts)), (hp0_machine_lengths, .inl (E.1, 8, .inl p0_machine_lengths)), (hp0_machine_stack, .inl (E.1, 40, .inl p0_machine_stack)), (hp0_others_letters, .inl (E.1, 4, .inl p0_others_letters)), (hp0_others_lengths, .inl (E.1, 4, .inl p0_others_lengths)), (hp0_others_bytes, .inl (E.1, 240, .inl p0_others_bytes))]) (As := []) (rest := []) ⟨hx, hb, hml, hown, hts⟩ (c_X3_forget l G E hp0 hp0_story hp0_machine hp0_others p0_fault p0_place p0_next p0_sawHead p0_sawMemory p0_sawStack p0_sawBlocks p0_story_ram p0_story_end hp0_story_original hp0_machine_memory p0_machine_size hp0_machine_stack p0_machine_depth hp0_machine_starts hp0_machine_lengths p0_machine_blocks p0_story_original p0_machine_memory p0_others_count hp0_others_letters hp0_others_lengths hp0_others_bytes u1.1 u1.2.1 u1.2.2.1 u1.2.2.2.1 u1.2.2.2.2.1 u1.2.2.2.2.2.1 u1.2.2.2.2.2.2.1 u1.2.2.2.2.2.2.2.1 u1.2.2.2.2.2.2.2.2.1 u1.2.2.2.2.2.2.2.2.2.1 u1.2.2.2.2.2.2.2.2.2.2.1 u1.2.2.2.2.2.2.2.2.2.2.2 hu1) ok_X3_forget okv_X3_forget wd_005d8e62 ⟨Nat.le_of_ble_eq_true rfl, Nat.le_of_ble_eq_true rfl⟩ hK hP hD hS hA [0, 1, 2, 3, 4, 5] [6, 7, 8, 9, 10, 11, 12, 13] rfl rfl (by decide) (by decide) (by decide) (va_recv hK.1 hP (ci := 3) (q0 := 0) rfl rfl) rfl hl.1 rfl (Nat.le_of_ble_eq_true rfl) dX3_read_1 ⟨Nat.le_of_ble_eq_true rfl, Nat.le_of_ble_eq_true rfl⟩ (fun H locs a2 hP hD hS => ?_)
  have hP : va_P G vwCl [(hp1, .inr (0, [.ref hp1_bytes, .int p1_size, .int p1_overflowed])), (hp1_bytes, .inl (E.1, 1200, .inl p1_bytes)), (hp0_machine_starts, .inl (E.1, 8, .inl p0_machine_starts)), (hp0_machine_lengths, .inl (E.1, 8, .inl p0_machine_lengths)), (hp0_machine_stack, .inl (E.1, 40, .inl p0_machine_stack)), (hp0_others_letters, .inl (E.1, 4, .inl p0_others_letters)), (hp0_others_lengths, .inl (E.1, 4, .inl p0_others_lengths)), (hp0_others_bytes, .inl (E.1, 240, .inl p0_others_bytes)), (hp0, .inr (3, [.ref hp0_story, .ref hp0_machine, .ref hp0_others, .int u1.1, .int u1.2.1, .int u1.2.2.1, .int u1.2.2.2.1, .int u1.2.2.2.2.1, .int u1.2.2.2.2.2.1, .int u1.2.2.2.2.2.2.1])), (hp0_story, .inr (4, [.int p0_story_ram, .int p0_story_end, .ref hp0_story_original])), (hp0_machine, .inr (1, [.ref hp0_machine_memory, .int u1.2.2.2.2.2.2.2.2.1, .ref hp0_machine_stack, .int u1.2.2.2.2.2.2.2.2.2.1, .ref hp0_machine_starts, .ref hp0_machine_lengths, .int u1.2.2.2.2.2.2.2.2.2.2.1])), (hp0_story_original, .inl (E.1, 512, .inl p0_story_original)), (hp0_machine_memory, .inl (E.1, 512, .inl u1.2.2.2.2.2.2.2.1)), (hp0_others, .inr (2, [.int u1.2.2.2.2.2.2.2.2.2.2.2, .ref hp0_others_letters, .ref hp0_others_lengths, .ref hp0_others_bytes]))] H := hP
  have hD : va_D A [(hp1, .inr (0, [.ref hp1_bytes, .int p1_size, .int p1_overflowed])), (hp1_bytes, .inl (E.1, 1200, .inl p1_bytes)), (hp0_machine_starts, .inl (E.1, 8, .inl p0_machine_starts)), (hp0_machine_lengths, .inl (E.1, 8, .inl p0_machine_lengths)), (hp0_machine_stack, .inl (E.1, 40, .inl p0_machine_stack)), (hp0_others_letters, .inl (E.1, 4, .inl p0_others_letters)), (hp0_others_lengths, .inl (E.1, 4, .inl p0_others_lengths)), (hp0_others_bytes, .inl (E.1, 240, .inl p0_others_bytes)), (hp0, .inr (3, [.ref hp0_story, .ref hp0_machine, .ref hp0_others, .int u1.1, .int u1.2.1, .int u1.2.2.1, .int u1.2.2.2.1, .int u1.2.2.2.2.1, .int u1.2.2.2.2.2.1, .int u1.2.2.2.2.2.2.1])), (hp0_story, .inr (4, [.int p0_story_ram, .int p0_story_end, .ref hp0_story_original])), (hp0_machine, .inr (1, [.ref hp0_machine_memory, .int u1.2.2.2.2.2.2.2.2.1, .ref hp0_machine_stack, .int u1.2.2.2.2.2.2.2.2.2.1, .ref hp0_machine_starts, .ref hp0_machine_lengths, .int u1.2.2.2.2.2.2.2.2.2.2.1])), (hp0_story_original, .inl (E.1, 512, .inl p0_story_original)), (hp0_machine_memory, .inl (E.1, 512, .inl u1.2.2.2.2.2.2.2.1)), (hp0_others, .inr (2, [.int u1.2.2.2.2.2.2.2.2.2.2.2, .ref hp0_others_letters, .ref hp0_others_lengths, .ref hp0_others_bytes]))] := hD
  refine lv_aload_n hx hb dX3_read_4 rfl (lv_at hl 0 rfl) ?_
  refine lv_aload_n hx hb dX3_read_5 rfl (lv_at hl 1 rfl) ?_
  obtain ⟨u3, hu3, h⟩ := bd_t h
  refine cVi (wr := [(hp0_machine_starts, .inl (E.1, 8, .inl p0_machine_starts)), (hp0_machine_lengths, .inl (E.1, 8, .inl p0_machine_lengths)), (hp0_machine_stack, .inl (E.1, 40, .inl p0_machine_stack)), (hp0_others_letters, .inl (E.1, 4, .inl p0_others_letters)), (hp0_others_lengths, .inl (E.1, 4, .inl p0_others_lengths)), (hp0_others_bytes, .inl (E.1, 240, .inl p0_others_bytes)), (hp0_story, .inr (4, [.int p0_story_ram, .int p0_story_end, .ref hp0_story_original])), (hp0_machine, .inr (1, [.ref hp0_machine_memory, .int u1.2.2.2.2.2.2.2.2.1, .ref hp0_machine_stack, .int u1.2.2.2.2.2.2.2.2.2.1, .ref hp0_machine_starts, .ref hp0_machine_lengths, .int u1.2.2.2.2.2.2.2.2.2.2.1])), (hp0_story_original, .inl (E.1, 512, .inl p0_story_original)), (hp0_machine_memory, .inl (E.1, 512, .inl u1.2.2.2.2.2.2.2.1)), (hp0_others, .inr (2, [.int u1.2.2.2.2.2.2.2.2.2.2.2, .ref hp0_others_letters, .ref hp0_others_lengths, .ref hp0_others_bytes]))]) (As := [.ref hp1]) (rest := []) ⟨hx, hb, hml, hown, hts⟩ (c_X3_readFront l G E N hp1 hp1_bytes p1_size p1_overflowed hp0 hp0_story hp0_machine hp0_others u1.1 u1.2.1 u1.2.2.1 u1.2.2.2.1 u1.2.2.2.2.1 u1.2.2.2.2.2.1 u1.2.2.2.2.2.2.1 p1_bytes u3.1 u3.2.1 u3.2.2 hu3) ok_X3_readFront okv_X3_readFront wd_abd38475 ⟨Nat.le_of_ble_eq_true rfl, Nat.le_of_ble_eq_true rfl⟩ hK hP hD hS hA [0, 8, 1] [2, 3, 4, 5, 6, 7, 9, 10, 11, 12, 13] rfl rfl (by decide) (by decide) (by decide) (va_recv hK.1 hP (ci := 3) (q0 := 8) rfl rfl) rfl hl.1 rfl (Nat.le_of_ble_eq_true rfl) dX3_read_6 ⟨Nat.le_of_ble_eq_true rfl, Nat.le_of_ble_eq_true rfl⟩ (fun H locs a4 hP hD hS => ?_)
  have hP : va_P G vwCl [(hp0_machine_starts, .inl (E.1, 8, .inl p0_machine_starts)), (hp0_machine_lengths, .inl (E.1, 8, .inl p0_machine_lengths)), (hp0_machine_stack, .inl (E.1, 40, .inl p0_machine_stack)), (hp0_others_letters, .inl (E.1, 4, .inl p0_others_letters)), (hp0_others_lengths, .inl (E.1, 4, .inl p0_others_lengths)), (hp0_others_bytes, .inl (E.1, 240, .inl p0_others_bytes)), (hp0_story, .inr (4, [.int p0_story_ram, .int p0_story_end, .ref hp0_story_original])), (hp0_machine, .inr (1, [.ref hp0_machine_memory, .int u1.2.2.2.2.2.2.2.2.1, .ref hp0_machine_stack, .int u1.2.2.2.2.2.2.2.2.2.1, .ref hp0_machine_starts, .ref hp0_machine_lengths, .int u1.2.2.2.2.2.2.2.2.2.2.1])), (hp0_story_original, .inl (E.1, 512, .inl p0_story_original)), (hp0_machine_memory, .inl (E.1, 512, .inl u1.2.2.2.2.2.2.2.1)), (hp0_others, .inr (2, [.int u1.2.2.2.2.2.2.2.2.2.2.2, .ref hp0_others_letters, .ref hp0_others_lengths, .ref hp0_others_bytes])), (hp1, .inr (0, [.ref hp1_bytes, .int p1_size, .int p1_overflowed])), (hp0, .inr (3, [.ref hp0_story, .ref hp0_machine, .ref hp0_others, .int u3.2.1, .int u3.2.2, .int u1.2.2.1, .int u1.2.2.2.1, .int u1.2.2.2.2.1, .int u1.2.2.2.2.2.1, .int u1.2.2.2.2.2.2.1])), (hp1_bytes, .inl (E.1, 1200, .inl p1_bytes))] H := hP
  have hD : va_D A [(hp0_machine_starts, .inl (E.1, 8, .inl p0_machine_starts)), (hp0_machine_lengths, .inl (E.1, 8, .inl p0_machine_lengths)), (hp0_machine_stack, .inl (E.1, 40, .inl p0_machine_stack)), (hp0_others_letters, .inl (E.1, 4, .inl p0_others_letters)), (hp0_others_lengths, .inl (E.1, 4, .inl p0_others_lengths)), (hp0_others_bytes, .inl (E.1, 240, .inl p0_others_bytes)), (hp0_story, .inr (4, [.int p0_story_ram, .int p0_story_end, .ref hp0_story_original])), (hp0_machine, .inr (1, [.ref hp0_machine_memory, .int u1.2.2.2.2.2.2.2.2.1, .ref hp0_machine_stack, .int u1.2.2.2.2.2.2.2.2.2.1, .ref hp0_machine_starts, .ref hp0_machine_lengths, .int u1.2.2.2.2.2.2.2.2.2.2.1])), (hp0_story_original, .inl (E.1, 512, .inl p0_story_original)), (hp0_machine_memory, .inl (E.1, 512, .inl u1.2.2.2.2.2.2.2.1)), (hp0_others, .inr (2, [.int u1.2.2.2.2.2.2.2.2.2.2.2, .ref hp0_others_letters, .ref hp0_others_lengths, .ref hp0_others_bytes])), (hp1, .inr (0, [.ref hp1_bytes, .int p1_size, .int p1_overflowed])), (hp0, .inr (3, [.ref hp0_story, .ref hp0_machine, .ref hp0_others, .int u3.2.1, .int u3.2.2, .int u1.2.2.1, .int u1.2.2.2.1, .int u1.2.2.2.2.1, .int u1.2.2.2.2.2.1, .int u1.2.2.2.2.2.2.1])), (hp1_bytes, .inl (E.1, 1200, .inl p1_bytes))] := hD
  refine lv_if_ne (tgt := 14) hx hb dX3_read_9 (by decide) (fun c5 => ?_) (fun c5 => ?_)
  · replace h := if_f h c5
    refine lv_iconst (v := 0) hx hb dX3_read_14 (by decide) ?_
    refine lv_istore_n (lv' := [(2, .int (0 : Int32)), (0, .ref hp0), (1, .ref hp1)]) hx hb dX3_read_15 rfl hl (by decide) rfl (fun ls hl => ?_)
    have hL16 : ∀ (K53 : Int32 → Int32 → Int32 → Int32 → Int32 → Int32 → Int32 → (Nat → Int32) → Int32 → (Nat → Int32) → Int32 → (Nat → Int32) → (Nat → Int32) → Int32 → Int32 → (Nat → Int32) → (Nat → Int32) → (Nat → Int32) → Int32 → Option (Int32 × Int32 × Int32 × Int32 × Int32 × Int32 × Int32 × Int32 × (Nat → Int32) × Int32 × (Nat → Int32) × Int32 × (Nat → Int32) × (Nat → Int32) × Int32 × Int32 × (Nat → Int32) × (Nat → Int32) × (Nat → Int32))), (∀ (z6 : Int32) (z7 : Int32) (z8 : Int32) (z9 : Int32) (z10 : Int32) (z11 : Int32) (z12 : Int32) (z13 : (Nat → Int32)) (z14 : Int32) (z15 : (Nat → Int32)) (z16 : Int32) (z17 : (Nat → Int32)) (z18 : (Nat → Int32)) (z19 : Int32) (z20 : Int32) (z21 : (Nat → Int32)) (z22 : (Nat → Int32)) (z23 : (Nat → Int32)) (z24 : Int32), K53 z6 z7 z8 z9 z10 z11 z12 z13 z14 z15 z16 z17 z18 z19 z20 z21 z22 z23 z24 = some (r, o0, o1, o2, o3, o4, o5, o6, o7, o8, o9, o10, o11, o12, o13, o14, o15, o16, o17) → ∀ (H : Heap) (locs : List Loc) (ls : Array Slot), va_P G vwCl [(hp0_machine_starts, .inl (E.1, 8, .inl z17)), (hp0_machine_lengths, .inl (E.1, 8, .inl z18)), (hp0_machine_stack, .inl (E.1, 40, .inl z15)), (hp0_others_letters, .inl (E.1, 4, .inl z21)), (hp0_others_lengths, .inl (E.1, 4, .inl z22)), (hp0_others_bytes, .inl (E.1, 240, .inl z23)), (hp0_story, .inr (4, [.int p0_story_ram, .int p0_story_end, .ref hp0_story_original])), (hp0_machine, .inr (1, [.ref hp0_machine_memory, .int z14, .ref hp0_machine_stack, .int z16, .ref hp0_machine_starts, .ref hp0_machine_lengths, .int z19])), (hp0_story_original, .inl (E.1, 512, .inl p0_story_original)), (hp0_machine_memory, .inl (E.1, 512, .inl z13)), (hp0_others, .inr (2, [.int z20, .ref hp0_others_letters, .ref hp0_others_lengths, .ref hp0_others_bytes])), (hp1, .inr (0, [.ref hp1_bytes, .int p1_size, .int p1_overflowed])), (hp0, .inr (3, [.ref hp0_story, .ref hp0_machine, .ref hp0_others, .int z6, .int z7, .int z8, .int z9, .int z10, .int z11, .int z12])), (hp1_bytes, .inl (E.1, 1200, .inl p1_bytes))] H → va_D A [(hp0_machine_starts, .inl (E.1, 8, .inl z17)), (hp0_machine_lengths, .inl (E.1, 8, .inl z18)), (hp0_machine_stack, .inl (E.1, 40, .inl z15)), (hp0_others_letters, .inl (E.1, 4, .inl z21)), (hp0_others_lengths, .inl (E.1, 4, .inl z22)), (hp0_others_bytes, .inl (E.1, 240, .inl z23)), (hp0_story, .inr (4, [.int p0_story_ram, .int p0_story_end, .ref hp0_story_original])), (hp0_machine, .inr (1, [.ref hp0_machine_memory, .int z14, .ref hp0_machine_stack, .int z16, .ref hp0_machine_starts, .ref hp0_machine_lengths, .int z19])), (hp0_story_original, .inl (E.1, 512, .inl p0_story_original)), (hp0_machine_memory, .inl (E.1, 512, .inl z13)), (hp0_others, .inr (2, [.int z20, .ref hp0_others_letters, .ref hp0_others_lengths, .ref hp0_others_bytes])), (hp1, .inr (0, [.ref hp1_bytes, .int p1_size, .int p1_overflowed])), (hp0, .inr (3, [.ref hp0_story, .ref hp0_machine, .ref hp0_others, .int z6, .int z7, .int z8, .int z9, .int z10, .int z11, .int z12])), (hp1_bytes, .inl (E.1, 1200, .inl p1_bytes))] → va_S A s.heap H locs → lv_has ls 3 [(0, .ref hp0), (1, .ref hp1)] → W p l e w_rm_X3_read s m args below meth c H locs 0 0 Q (F0 m 53 ls [])) → ∀ (n : Nat) (z6 : Int32) (z7 : Int32) (z8 : Int32) (z9 : Int32) (z10 : Int32) (z11 : Int32) (z12 : Int32) (z13 : (Nat → Int32)) (z14 : Int32) (z15 : (Nat → Int32)) (z16 : Int32) (z17 : (Nat → Int32)) (z18 : (Nat → Int32)) (z19 : Int32) (z20 : Int32) (z21 : (Nat → Int32)) (z22 : (Nat → Int32)) (z23 : (Nat → Int32)) (z24 : Int32), L_X3_read_16 N p0_story_ram p0_story_end p0_story_original p1_size p1_bytes K53 n z6 z7 z8 z9 z10 z11 z12 z13 z14 z15 z16 z17 z18 z19 z20 z21 z22 z23 z24 = some (r, o0, o1, o2, o3, o4, o5, o6, o7, o8, o9, o10, o11, o12, o13, o14, o15, o16, o17) → ∀ (H : Heap) (locs : List Loc) (ls : Array Slot), va_P G vwCl [(hp0_machine_starts, .inl (E.1, 8, .inl z17)), (hp0_machine_lengths, .inl (E.1, 8, .inl z18)), (hp0_machine_stack, .inl (E.1, 40, .inl z15)), (hp0_others_letters, .inl (E.1, 4, .inl z21)), (hp0_others_lengths, .inl (E.1, 4, .inl z22)), (hp0_others_bytes, .inl (E.1, 240, .inl z23)), (hp0_story, .inr (4, [.int p0_story_ram, .int p0_story_end, .ref hp0_story_original])), (hp0_machine, .inr (1, [.ref hp0_machine_memory, .int z14, .ref hp0_machine_stack, .int z16, .ref hp0_machine_starts, .ref hp0_machine_lengths, .int z19])), (hp0_story_original, .inl (E.1, 512, .inl p0_story_original)), (hp0_machine_memory, .inl (E.1, 512, .inl z13)), (hp0_others, .inr (2, [.int z20, .ref hp0_others_letters, .ref hp0_others_lengths, .ref hp0_others_bytes])), (hp1, .inr (0, [.ref hp1_bytes, .int p1_size, .int p1_overflowed])), (hp0, .inr (3, [.ref hp0_story, .ref hp0_machine, .ref hp0_others, .int z6, .int z7, .int z8, .int z9, .int z10, .int z11, .int z12])), (hp1_bytes, .inl (E.1, 1200, .inl p1_bytes))] H → va_D A [(hp0_machine_starts, .inl (E.1, 8, .inl z17)), (hp0_machine_lengths, .inl (E.1, 8, .inl z18)), (hp0_machine_stack, .inl (E.1, 40, .inl z15)), (hp0_others_letters, .inl (E.1, 4, .inl z21)), (hp0_others_lengths, .inl (E.1, 4, .inl z22)), (hp0_others_bytes, .inl (E.1, 240, .inl z23)), (hp0_story, .inr (4, [.int p0_story_ram, .int p0_story_end, .ref hp0_story_original])), (hp0_machine, .inr (1, [.ref hp0_machine_memory, .int z14, .ref hp0_machine_stack, .int z16, .ref hp0_machine_starts, .ref hp0_machine_lengths, .int z19])), (hp0_story_original, .inl (E.1, 512, .inl p0_story_original)), (hp0_machine_memory, .inl (E.1, 512, .inl z13)), (hp0_others, .inr (2, [.int z20, .ref hp0_others_letters, .ref hp0_others_lengths, .ref hp0_others_bytes])), (hp1, .inr (0, [.ref hp1_bytes, .int p1_size, .int p1_overflowed])), (hp0, .inr (3, [.ref hp0_story, .ref hp0_machine, .ref hp0_others, .int z6, .int z7, .int z8, .int z9, .int z10, .int z11, .int z12])), (hp1_bytes, .inl (E.1, 1200, .inl p1_bytes))] → va_S A s.heap H locs → lv_has ls 3 [(0, .ref hp0), (1, .ref hp1), (2, .int z24)] → W p l e w_rm_X3_read s m args below meth c H locs 0 0 Q (F0 m 16 ls []) := by
      intro K53 hK53 n
      induction n with
      | zero =>
        intro z6 z7 z8 z9 z10 z11 z12 z13 z14 z15 z16 z17 z18 z19 z20 z21 z22 z23 z24 h
        replace h : (none : Option (Int32 × Int32 × Int32 × Int32 × Int32 × Int32 × Int32 × Int32 × (Nat → Int32) × Int32 × (Nat → Int32) × Int32 × (Nat → Int32) × (Nat → Int32) × Int32 × Int32 × (Nat → Int32) × (Nat → Int32) × (Nat → Int32))) = some (r, o0, o1, o2, o3, o4, o5, o6, o7, o8, o9, o10, o11, o12, o13, o14, o15, o16, o17) := h
        cases h
      | succ n ih =>
        intro z6 z7 z8 z9 z10 z11 z12 z13 z14 z15 z16 z17 z18 z19 z20 z21 z22 z23 z24 h H locs ls hP hD hS hl
        replace h : B_X3_read_16 N p0_story_ram p0_story_end p0_story_original p1_size p1_bytes (fun z6 z7 z8 z9 z10 z11 z12 z13 z14 z15 z16 z17 z18 z19 z20 z21 z22 z23 z24 => L_X3_read_16 N p0_story_ram p0_story_end p0_story_original p1_size p1_bytes K53 n z6 z7 z8 z9 z10 z11 z12 z13 z14 z15 z16 z17 z18 z19 z20 z21 z22 z23 z24) K53 z6 z7 z8 z9 z10 z11 z12 z13 z14 z15 z16 z17 z18 z19 z20 z21 z22 z23 z24 = some (r, o0, o1, o2, o3, o4, o5, o6, o7, o8, o9, o10, o11, o12, o13, o14, o15, o16, o17) := h
        obtain ⟨rec16, hrec16⟩ : ∃ f : Int32 → Int32 → Int32 → Int32 → Int32 → Int32 → Int32 → (Nat → Int32) → Int32 → (Nat → Int32) → Int32 → (Nat → Int32) → (Nat → Int32) → Int32 → Int32 → (Nat → Int32) → (Nat → Int32) → (Nat → Int32) → Int32 → Option (Int32 × Int32 × Int32 × Int32 × Int32 × Int32 × Int32 × Int32 × (Nat → Int32) × Int32 × (Nat → Int32) × Int32 × (Nat → Int32) × (Nat → Int32) × Int32 × Int32 × (Nat → Int32) × (Nat → Int32) × (Nat → Int32)), f = (fun z6 z7 z8 z9 z10 z11 z12 z13 z14 z15 z16 z17 z18 z19 z20 z21 z22 z23 z24 => L_X3_read_16 N p0_story_ram p0_story_end p0_story_original p1_size p1_bytes K53 n z6 z7 z8 z9 z10 z11 z12 z13 z14 z15 z16 z17 z18 z19 z20 z21 z22 z23 z24) := ⟨_, rfl⟩
        rw [← hrec16] at h
        unfold B_X3_read_16 at h
        refine lv_iload_n hx hb dX3_read_16 rfl (lv_at hl 2 rfl) ?_
        refine lv_bipush (v := 9) hx hb dX3_read_17 (by decide) ?_
        refine lv_icmp_ge (tgt := 53) hx hb dX3_read_19 (by decide) (fun c25 => ?_) (fun c25 => ?_)
        · replace h := if_t h c25
          exact hK53 z6 z7 z8 z9 z10 z11 z12 z13 z14 z15 z16 z17 z18 z19 z20 z21 z22 z23 z24 h _ _ _ hP hD hS (lv_sub hl [0, 1] rfl)
        · replace h := if_f h c25
          refine lv_aload_n hx hb dX3_read_22 rfl (lv_at hl 0 rfl) ?_
          refine getF (D := G) (ci := 3) (v := .int z8) (C := RX3) (T := TX3) (N := 10) hx hb hts inG_X3 hown hK.1 hP 12 rfl rfl 5 (by decide) tf_X3_5 (hts _ wd_ba30ed8e) rfl dX3_read_23 ?_
          refine lv_aload_n hx hb dX3_read_26 rfl (lv_at hl 1 rfl) ?_
          refine getF (D := G) (ci := 0) (v := .int p1_size) (C := RX0) (T := TX0) (N := 3) hx hb hts inG_X0 hown hK.1 hP 11 rfl rfl 1 (by decide) tf_X0_1 (hts _ wd_c6bc4f1c) rfl dX3_read_27 ?_
          refine lv_icmp_ge (tgt := 53) hx hb dX3_read_30 (by decide) (fun c26 => ?_) (fun c26 => ?_)
          · replace h := if_t h c26
            exact hK53 z6 z7 z8 z9 z10 z11 z12 z13 z14 z15 z16 z17 z18 z19 z20 z21 z22 z23 z24 h _ _ _ hP hD hS (lv_sub hl [0, 1] rfl)
          · replace h := if_f h c26
            refine lv_aload_n hx hb dX3_read_33 rfl (lv_at hl 0 rfl) ?_
            refine lv_aload_n hx hb dX3_read_34 rfl (lv_at hl 1 rfl) ?_
            refine lv_aload_n hx hb dX3_read_35 rfl (lv_at hl 0 rfl) ?_
            refine getF (D := G) (ci := 3) (v := .int z8) (C := RX3) (T := TX3) (N := 10) hx hb hts inG_X3 hown hK.1 hP 12 rfl rfl 5 (by decide) tf_X3_5 (hts _ wd_ba30ed8e) rfl dX3_read_36 ?_
            obtain ⟨u27, hu27, h⟩ := bd_t h
            refine cVi (wr := []) (As := [.ref hp1, .int z8]) (rest := []) ⟨hx, hb, hml, hown, hts⟩ (c_X3_readChunk l G E N hp1 hp1_bytes p1_size p1_overflowed hp0 hp0_story hp0_machine hp0_others z6 z7 z8 z9 z10 z11 z12 p1_bytes z20 hp0_others_letters hp0_others_lengths hp0_others_bytes p0_story_ram p0_story_end hp0_story_original hp0_machine_memory z14 hp0_machine_stack z16 hp0_machine_starts hp0_machine_lengths z19 z13 p0_story_original z17 z18 z15 z21 z22 z23 z8 u27.1 u27.2.1 u27.2.2.1 u27.2.2.2.1 u27.2.2.2.2.1 u27.2.2.2.2.2.1 u27.2.2.2.2.2.2.1 u27.2.2.2.2.2.2.2.1 u27.2.2.2.2.2.2.2.2.1 u27.2.2.2.2.2.2.2.2.2.1 u27.2.2.2.2.2.2.2.2.2.2.1 u27.2.2.2.2.2.2.2.2.2.2.2.1 u27.2.2.2.2.2.2.2.2.2.2.2.2.1 u27.2.2.2.2.2.2.2.2.2.2.2.2.2.1 u27.2.2.2.2.2.2.2.2.2.2.2.2.2.2.1 u27.2.2.2.2.2.2.2.2.2.2.2.2.2.2.2.1 u27.2.2.2.2.2.2.2.2.2.2.2.2.2.2.2.2.1 u27.2.2.2.2.2.2.2.2.2.2.2.2.2.2.2.2.2.1 u27.2.2.2.2.2.2.2.2.2.2.2.2.2.2.2.2.2.2 hu27) ok_X3_readChunk okv_X3_readChunk wd_39e82996 ⟨Nat.le_of_ble_eq_true rfl, Nat.le_of_ble_eq_true rfl⟩ hK hP hD hS hA [11, 12, 13, 10, 6, 7, 9, 8, 0, 1, 2, 3, 4, 5] [] rfl rfl (by decide) (by decide) (by decide) (va_recv hK.1 hP (ci := 3) (q0 := 12) rfl rfl) rfl hl.1 rfl (Nat.le_of_ble_eq_true rfl) dX3_read_39 ⟨Nat.le_of_ble_eq_true rfl, Nat.le_of_ble_eq_true rfl⟩ (fun H locs a28 hP hD hS => ?_)
            have hP : va_P G vwCl [(hp1, .inr (0, [.ref hp1_bytes, .int p1_size, .int p1_overflowed])), (hp0, .inr (3, [.ref hp0_story, .ref hp0_machine, .ref hp0_others, .int u27.2.1, .int u27.2.2.1, .int u27.2.2.2.1, .int u27.2.2.2.2.1, .int u27.2.2.2.2.2.1, .int u27.2.2.2.2.2.2.1, .int u27.2.2.2.2.2.2.2.1])), (hp1_bytes, .inl (E.1, 1200, .inl p1_bytes)), (hp0_others, .inr (2, [.int u27.2.2.2.2.2.2.2.2.2.2.2.2.2.2.2.1, .ref hp0_others_letters, .ref hp0_others_lengths, .ref hp0_others_bytes])), (hp0_story, .inr (4, [.int p0_story_ram, .int p0_story_end, .ref hp0_story_original])), (hp0_machine, .inr (1, [.ref hp0_machine_memory, .int u27.2.2.2.2.2.2.2.2.2.1, .ref hp0_machine_stack, .int u27.2.2.2.2.2.2.2.2.2.2.2.1, .ref hp0_machine_starts, .ref hp0_machine_lengths, .int u27.2.2.2.2.2.2.2.2.2.2.2.2.2.2.1])), (hp0_machine_memory, .inl (E.1, 512, .inl u27.2.2.2.2.2.2.2.2.1)), (hp0_story_original, .inl (E.1, 512, .inl p0_story_original)), (hp0_machine_starts, .inl (E.1, 8, .inl u27.2.2.2.2.2.2.2.2.2.2.2.2.1)), (hp0_machine_lengths, .inl (E.1, 8, .inl u27.2.2.2.2.2.2.2.2.2.2.2.2.2.1)), (hp0_machine_stack, .inl (E.1, 40, .inl u27.2.2.2.2.2.2.2.2.2.2.1)), (hp0_others_letters, .inl (E.1, 4, .inl u27.2.2.2.2.2.2.2.2.2.2.2.2.2.2.2.2.1)), (hp0_others_lengths, .inl (E.1, 4, .inl u27.2.2.2.2.2.2.2.2.2.2.2.2.2.2.2.2.2.1)), (hp0_others_bytes, .inl (E.1, 240, .inl u27.2.2.2.2.2.2.2.2.2.2.2.2.2.2.2.2.2.2))] H := hP
            have hD : va_D A [(hp1, .inr (0, [.ref hp1_bytes, .int p1_size, .int p1_overflowed])), (hp0, .inr (3, [.ref hp0_story, .ref hp0_machine, .ref hp0_others, .int u27.2.1, .int u27.2.2.1, .int u27.2.2.2.1, .int u27.2.2.2.2.1, .int u27.2.2.2.2.2.1, .int u27.2.2.2.2.2.2.1, .int u27.2.2.2.2.2.2.2.1])), (hp1_bytes, .inl (E.1, 1200, .inl p1_bytes)), (hp0_others, .inr (2, [.int u27.2.2.2.2.2.2.2.2.2.2.2.2.2.2.2.1, .ref hp0_others_letters, .ref hp0_others_lengths, .ref hp0_others_bytes])), (hp0_story, .inr (4, [.int p0_story_ram, .int p0_story_end, .ref hp0_story_original])), (hp0_machine, .inr (1, [.ref hp0_machine_memory, .int u27.2.2.2.2.2.2.2.2.2.1, .ref hp0_machine_stack, .int u27.2.2.2.2.2.2.2.2.2.2.2.1, .ref hp0_machine_starts, .ref hp0_machine_lengths, .int u27.2.2.2.2.2.2.2.2.2.2.2.2.2.2.1])), (hp0_machine_memory, .inl (E.1, 512, .inl u27.2.2.2.2.2.2.2.2.1)), (hp0_story_original, .inl (E.1, 512, .inl p0_story_original)), (hp0_machine_starts, .inl (E.1, 8, .inl u27.2.2.2.2.2.2.2.2.2.2.2.2.1)), (hp0_machine_lengths, .inl (E.1, 8, .inl u27.2.2.2.2.2.2.2.2.2.2.2.2.2.1)), (hp0_machine_stack, .inl (E.1, 40, .inl u27.2.2.2.2.2.2.2.2.2.2.1)), (hp0_others_letters, .inl (E.1, 4, .inl u27.2.2.2.2.2.2.2.2.2.2.2.2.2.2.2.2.1)), (hp0_others_lengths, .inl (E.1, 4, .inl u27.2.2.2.2.2.2.2.2.2.2.2.2.2.2.2.2.2.1)), (hp0_others_bytes, .inl (E.1, 240, .inl u27.2.2.2.2.2.2.2.2.2.2.2.2.2.2.2.2.2.2))] := hD
            refine lv_if_ne (tgt := 47) hx hb dX3_read_42 (by decide) (fun c29 => ?_) (fun c29 => ?_)
            · replace h := if_f h c29
              obtain ⟨x30, ex30⟩ : ∃ y : Int32, y = z24 + 1 := ⟨_, rfl⟩
              replace h := bn_t h ex30
              refine lv_iinc (v := x30) (lv' := [(2, .int x30), (0, .ref hp0), (1, .ref hp1)]) hx hb dX3_read_47 hl (k := 2) rfl (by rw [ex30]; rfl) (by decide) rfl (fun ls hl => ?_)
              refine lv_goto (tgt := 16) hx hb dX3_read_50 (by decide) ?_
              exact ih u27.2.1 u27.2.2.1 u27.2.2.2.1 u27.2.2.2.2.1 u27.2.2.2.2.2.1 u27.2.2.2.2.2.2.1 u27.2.2.2.2.2.2.2.1 u27.2.2.2.2.2.2.2.2.1 u27.2.2.2.2.2.2.2.2.2.1 u27.2.2.2.2.2.2.2.2.2.2.1 u27.2.2.2.2.2.2.2.2.2.2.2.1 u27.2.2.2.2.2.2.2.2.2.2.2.2.1 u27.2.2.2.2.2.2.2.2.2.2.2.2.2.1 u27.2.2.2.2.2.2.2.2.2.2.2.2.2.2.1 u27.2.2.2.2.2.2.2.2.2.2.2.2.2.2.2.1 u27.2.2.2.2.2.2.2.2.2.2.2.2.2.2.2.2.1 u27.2.2.2.2.2.2.2.2.2.2.2.2.2.2.2.2.2.1 u27.2.2.2.2.2.2.2.2.2.2.2.2.2.2.2.2.2.2 x30 (by rw [hrec16] at h; exact h) _ _ _ (hP.sub [8, 9, 10, 11, 12, 13, 4, 5, 7, 6, 3, 0, 1, 2] rfl) (hD.sub [8, 9, 10, 11, 12, 13, 4, 5, 7, 6, 3, 0, 1, 2] (by decide) rfl) hS (lv_sub hl [1, 2, 0] rfl)
            · replace h := if_t h c29
              refine lv_iconst (v := 0) hx hb dX3_read_45 (by decide) ?_
              cases h
              exact ret _ _ _ _ _ (fun _ => 0) rfl rfl (hP.sub [1, 4, 5, 7, 6, 3, 0, 2, 8, 9, 10, 11, 12, 13] rfl) (hD.sub [1, 4, 5, 7, 6, 3, 0, 2, 8, 9, 10, 11, 12, 13] (by decide) rfl) hS dX3_read_46
    refine hL16 _ (fun z6 z7 z8 z9 z10 z11 z12 z13 z14 z15 z16 z17 z18 z19 z20 z21 z22 z23 z24 h H locs ls hP hD hS hl => ?_) N u3.2.1 u3.2.2 u1.2.2.1 u1.2.2.2.1 u1.2.2.2.2.1 u1.2.2.2.2.2.1 u1.2.2.2.2.2.2.1 u1.2.2.2.2.2.2.2.1 u1.2.2.2.2.2.2.2.2.1 p0_machine_stack u1.2.2.2.2.2.2.2.2.2.1 p0_machine_starts p0_machine_lengths u1.2.2.2.2.2.2.2.2.2.2.1 u1.2.2.2.2.2.2.2.2.2.2.2 p0_others_letters p0_others_lengths p0_others_bytes (0 : Int32) h _ _ _ hP hD hS (lv_sub hl [1, 2, 0] rfl)
    try dsimp only at h
    refine lv_aload_n hx hb dX3_read_53 rfl (lv_at hl 0 rfl) ?_
    refine getF (D := G) (ci := 3) (v := .int z10) (C := RX3) (T := TX3) (N := 10) hx hb hts inG_X3 hown hK.1 hP 12 rfl rfl 7 (by decide) tf_X3_7 (hts _ wd_fb0e5dcc) rfl dX3_read_54 ?_
    have hJ67 : ∀ (_ : Unit), J_X3_read_67 p1_size z8 z9 z10 z11 z12 z13 z14 z15 z16 z17 z18 z19 z20 z21 z22 z23 = some (r, o0, o1, o2, o3, o4, o5, o6, o7, o8, o9, o10, o11, o12, o13, o14, o15, o16, o17) → ∀ (H : Heap) (locs : List Loc) (ls : Array Slot), va_P G vwCl [(hp0_machine_starts, .inl (E.1, 8, .inl z17)), (hp0_machine_lengths, .inl (E.1, 8, .inl z18)), (hp0_machine_stack, .inl (E.1, 40, .inl z15)), (hp0_others_letters, .inl (E.1, 4, .inl z21)), (hp0_others_lengths, .inl (E.1, 4, .inl z22)), (hp0_others_bytes, .inl (E.1, 240, .inl z23)), (hp0_story, .inr (4, [.int p0_story_ram, .int p0_story_end, .ref hp0_story_original])), (hp0_machine, .inr (1, [.ref hp0_machine_memory, .int z14, .ref hp0_machine_stack, .int z16, .ref hp0_machine_starts, .ref hp0_machine_lengths, .int z19])), (hp0_story_original, .inl (E.1, 512, .inl p0_story_original)), (hp0_machine_memory, .inl (E.1, 512, .inl z13)), (hp0_others, .inr (2, [.int z20, .ref hp0_others_letters, .ref hp0_others_lengths, .ref hp0_others_bytes])), (hp1, .inr (0, [.ref hp1_bytes, .int p1_size, .int p1_overflowed])), (hp0, .inr (3, [.ref hp0_story, .ref hp0_machine, .ref hp0_others, .int z6, .int z7, .int z8, .int z9, .int z10, .int z11, .int z12])), (hp1_bytes, .inl (E.1, 1200, .inl p1_bytes))] H → va_D A [(hp0_machine_starts, .inl (E.1, 8, .inl z17)), (hp0_machine_lengths, .inl (E.1, 8, .inl z18)), (hp0_machine_stack, .inl (E.1, 40, .inl z15)), (hp0_others_letters, .inl (E.1, 4, .inl z21)), (hp0_others_lengths, .inl (E.1, 4, .inl z22)), (hp0_others_bytes, .inl (E.1, 240, .inl z23)), (hp0_story, .inr (4, [.int p0_story_ram, .int p0_story_end, .ref hp0_story_original])), (hp0_machine, .inr (1, [.ref hp0_machine_memory, .int z14, .ref hp0_machine_stack, .int z16, .ref hp0_machine_starts, .ref hp0_machine_lengths, .int z19])), (hp0_story_original, .inl (E.1, 512, .inl p0_story_original)), (hp0_machine_memory, .inl (E.1, 512, .inl z13)), (hp0_others, .inr (2, [.int z20, .ref hp0_others_letters, .ref hp0_others_lengths, .ref hp0_others_bytes])), (hp1, .inr (0, [.ref hp1_bytes, .int p1_size, .int p1_overflowed])), (hp0, .inr (3, [.ref hp0_story, .ref hp0_machine, .ref hp0_others, .int z6, .int z7, .int z8, .int z9, .int z10, .int z11, .int z12])), (hp1_bytes, .inl (E.1, 1200, .inl p1_bytes))] → va_S A s.heap H locs → lv_has ls 3 [(0, .ref hp0), (1, .ref hp1)] → W p l e w_rm_X3_read s m args below meth c H locs 0 0 Q (F0 m 67 ls []) := by
      intro _ h H locs ls hP hD hS hl
      unfold J_X3_read_67 at h
      refine lv_aload_n hx hb dX3_read_67 rfl (lv_at hl 0 rfl) ?_
      refine lv_bipush (v := 8) hx hb dX3_read_68 (by decide) ?_
      refine lv_aload_n hx hb dX3_read_70 rfl (lv_at hl 1 rfl) ?_
      refine getF (D := G) (ci := 0) (v := .int p1_size) (C := RX0) (T := TX0) (N := 3) hx hb hts inG_X0 hown hK.1 hP 11 rfl rfl 1 (by decide) tf_X0_1 (hts _ wd_c6bc4f1c) rfl dX3_read_71 ?_
      obtain ⟨u32, hu32, h⟩ := bd_t h
      refine cVi (wr := [(hp0_machine_starts, .inl (E.1, 8, .inl z17)), (hp0_machine_lengths, .inl (E.1, 8, .inl z18)), (hp0_machine_stack, .inl (E.1, 40, .inl z15)), (hp0_others_letters, .inl (E.1, 4, .inl z21)), (hp0_others_lengths, .inl (E.1, 4, .inl z22)), (hp0_others_bytes, .inl (E.1, 240, .inl z23)), (hp0_story, .inr (4, [.int p0_story_ram, .int p0_story_end, .ref hp0_story_original])), (hp0_machine, .inr (1, [.ref hp0_machine_memory, .int z14, .ref hp0_machine_stack, .int z16, .ref hp0_machine_starts, .ref hp0_machine_lengths, .int z19])), (hp0_story_original, .inl (E.1, 512, .inl p0_story_original)), (hp0_machine_memory, .inl (E.1, 512, .inl z13)), (hp0_others, .inr (2, [.int z20, .ref hp0_others_letters, .ref hp0_others_lengths, .ref hp0_others_bytes])), (hp1, .inr (0, [.ref hp1_bytes, .int p1_size, .int p1_overflowed])), (hp1_bytes, .inl (E.1, 1200, .inl p1_bytes))]) (As := [.int (8 : Int32), .int p1_size]) (rest := []) ⟨hx, hb, hml, hown, hts⟩ (c_X3_fail l G E hp0 hp0_story hp0_machine hp0_others z6 z7 z8 z9 z10 z11 z12 (8 : Int32) p1_size u32.1 u32.2.1 u32.2.2 hu32) ok_X3_fail okv_X3_fail wd_c4b21be1 ⟨Nat.le_of_ble_eq_true rfl, Nat.le_of_ble_eq_true rfl⟩ hK hP hD hS hA [12] [0, 1, 2, 3, 4, 5, 6, 7, 8, 9, 10, 11, 13] rfl rfl (by decide) (by decide) (by decide) (va_recv hK.1 hP (ci := 3) (q0 := 12) rfl rfl) rfl hl.1 rfl (Nat.le_of_ble_eq_true rfl) dX3_read_74 ⟨Nat.le_of_ble_eq_true rfl, Nat.le_of_ble_eq_true rfl⟩ (fun H locs a33 hP hD hS => ?_)
      have hP : va_P G vwCl [(hp0_machine_starts, .inl (E.1, 8, .inl z17)), (hp0_machine_lengths, .inl (E.1, 8, .inl z18)), (hp0_machine_stack, .inl (E.1, 40, .inl z15)), (hp0_others_letters, .inl (E.1, 4, .inl z21)), (hp0_others_lengths, .inl (E.1, 4, .inl z22)), (hp0_others_bytes, .inl (E.1, 240, .inl z23)), (hp0_story, .inr (4, [.int p0_story_ram, .int p0_story_end, .ref hp0_story_original])), (hp0_machine, .inr (1, [.ref hp0_machine_memory, .int z14, .ref hp0_machine_stack, .int z16, .ref hp0_machine_starts, .ref hp0_machine_lengths, .int z19])), (hp0_story_original, .inl (E.1, 512, .inl p0_story_original)), (hp0_machine_memory, .inl (E.1, 512, .inl z13)), (hp0_others, .inr (2, [.int z20, .ref hp0_others_letters, .ref hp0_others_lengths, .ref hp0_others_bytes])), (hp1, .inr (0, [.ref hp1_bytes, .int p1_size, .int p1_overflowed])), (hp1_bytes, .inl (E.1, 1200, .inl p1_bytes)), (hp0, .inr (3, [.ref hp0_story, .ref hp0_machine, .ref hp0_others, .int u32.2.1, .int u32.2.2, .int z8, .int z9, .int z10, .int z11, .int z12]))] H := hP
      have hD : va_D A [(hp0_machine_starts, .inl (E.1, 8, .inl z17)), (hp0_machine_lengths, .inl (E.1, 8, .inl z18)), (hp0_machine_stack, .inl (E.1, 40, .inl z15)), (hp0_others_letters, .inl (E.1, 4, .inl z21)), (hp0_others_lengths, .inl (E.1, 4, .inl z22)), (hp0_others_bytes, .inl (E.1, 240, .inl z23)), (hp0_story, .inr (4, [.int p0_story_ram, .int p0_story_end, .ref hp0_story_original])), (hp0_machine, .inr (1, [.ref hp0_machine_memory, .int z14, .ref hp0_machine_stack, .int z16, .ref hp0_machine_starts, .ref hp0_machine_lengths, .int z19])), (hp0_story_original, .inl (E.1, 512, .inl p0_story_original)), (hp0_machine_memory, .inl (E.1, 512, .inl z13)), (hp0_others, .inr (2, [.int z20, .ref hp0_others_letters, .ref hp0_others_lengths, .ref hp0_others_bytes])), (hp1, .inr (0, [.ref hp1_bytes, .int p1_size, .int p1_overflowed])), (hp1_bytes, .inl (E.1, 1200, .inl p1_bytes)), (hp0, .inr (3, [.ref hp0_story, .ref hp0_machine, .ref hp0_others, .int u32.2.1, .int u32.2.2, .int z8, .int z9, .int z10, .int z11, .int z12]))] := hD
      refine lv_if_eq (tgt := 84) hx hb dX3_read_77 (by decide) (fun c34 => ?_) (fun c34 => ?_)
      · replace h := if_t h c34
        refine lv_iconst (v := 0) hx hb dX3_read_84 (by decide) ?_
        cases h
        exact ret _ _ _ _ _ (fun _ => 0) rfl rfl (hP.sub [13, 6, 7, 8, 9, 10, 11, 12, 0, 1, 2, 3, 4, 5] rfl) (hD.sub [13, 6, 7, 8, 9, 10, 11, 12, 0, 1, 2, 3, 4, 5] (by decide) rfl) hS dX3_read_85
      · replace h := if_f h c34
        refine lv_iconst (v := 1) hx hb dX3_read_80 (by decide) ?_
        refine lv_goto (tgt := 85) hx hb dX3_read_81 (by decide) ?_
        cases h
        exact ret _ _ _ _ _ (fun _ => 0) rfl rfl (hP.sub [13, 6, 7, 8, 9, 10, 11, 12, 0, 1, 2, 3, 4, 5] rfl) (hD.sub [13, 6, 7, 8, 9, 10, 11, 12, 0, 1, 2, 3, 4, 5] (by decide) rfl) hS dX3_read_85
    refine lv_if_eq (tgt := 67) hx hb dX3_read_57 (by decide) (fun c31 => ?_) (fun c31 => ?_)
    · replace h := if_t h c31
      exact hJ67 () h _ _ _ hP hD hS hl
    · replace h := if_f h c31
      refine lv_aload_n hx hb dX3_read_60 rfl (lv_at hl 0 rfl) ?_
      refine getF (D := G) (ci := 3) (v := .int z11) (C := RX3) (T := TX3) (N := 10) hx hb hts inG_X3 hown hK.1 hP 12 rfl rfl 8 (by decide) tf_X3_8 (hts _ wd_1456029b) rfl dX3_read_61 ?_
      refine lv_if_ne (tgt := 80) hx hb dX3_read_64 (by decide) (fun c35 => ?_) (fun c35 => ?_)
      · replace h := if_f h c35
        refine lv_iconst (v := 1) hx hb dX3_read_80 (by decide) ?_
        refine lv_goto (tgt := 85) hx hb dX3_read_81 (by decide) ?_
        cases h
        exact ret _ _ _ _ _ (fun _ => 0) rfl rfl (hP.sub [12, 6, 7, 8, 9, 10, 11, 13, 0, 1, 2, 3, 4, 5] rfl) (hD.sub [12, 6, 7, 8, 9, 10, 11, 13, 0, 1, 2, 3, 4, 5] (by decide) rfl) hS dX3_read_85
      · replace h := if_t h c35
        exact hJ67 () h _ _ _ hP hD hS hl
  · replace h := if_t h c5
    refine lv_iconst (v := 0) hx hb dX3_read_12 (by decide) ?_
    cases h
    exact ret _ _ _ _ _ (fun _ => 0) rfl rfl (hP.sub [12, 6, 7, 8, 9, 10, 11, 13, 0, 1, 2, 3, 4, 5] rfl) (hD.sub [12, 6, 7, 8, 9, 10, 11, 13, 0, 1, 2, 3, 4, 5] (by decide) rfl) hS dX3_read_13
