def f_X4_inSteps (i0 : Int32) (i1 : Int32) (i2 : Int32) (i3 : Int32) : Option (Int32) :=
  if i0 < i1 then (
  some ((0 : Int32)))
  else
  if i2 < i0 then (
  some ((0 : Int32)))
  else
  if i3 ≤ 0 then (
  some ((0 : Int32)))
  else
  gnz i3 <|
  bn (i_rem i0 i3) fun x5 =>
  if x5 = 0 then (
  some ((1 : Int32)))
  else
  some ((0 : Int32))
abbrev w_rm_X4_inSteps : Room := { frames := 0, cells := 0, slots := 0, locals := 0 }
set_option maxHeartbeats 4000000 in
set_option maxRecDepth 100000 in
theorem c_X4_inSteps (l : Launch) (G : va_G) (E : ClassId × ClassId × ClassId) (i0 : Int32) (i1 : Int32) (i2 : Int32) (i3 : Int32) (r : Int32) (h : f_X4_inSteps i0 i1 i2 i3 = some (r)) : MI l G E yX4_inSteps cX4_inSteps 4 .boolean w_rm_X4_inSteps [.int i0, .int i1, .int i2, .int i3] [] r (fun a => []) 0 0 := by
  refine MI_of (by decide) (Nat.le_of_ble_eq_true rfl) ?_
  intro p e s m args below meth c A Q hx hb hml hown hts hK hA hP hD hS ret ls hl
  replace ret : ∀ (R : (Int32)), R = (r) → ∀ (H : Heap) (locs : List Loc) (pc : Nat) (ls : Array Slot) (v : Int32) (a : Nat → Nat), v = R → narrow .boolean (.int v) = .int v → va_P G vwCl [] H → va_D A [] → va_S A s.heap H locs → decode cX4_inSteps pc = .ok (.ireturn, 1) → W p l e w_rm_X4_inSteps s m args below meth c H locs 0 0 Q (F0 m pc ls [.int v]) := by
    intro R hR
    subst hR
    exact ret
  replace hl : lv_has ls 4 [(0, .int i0), (1, .int i1), (2, .int i2), (3, .int i3)] := hl
  unfold f_X4_inSteps at h
  refine lv_iload_n hx hb dX4_inSteps_0 rfl (lv_at hl 0 rfl) ?_
  refine lv_iload_n hx hb dX4_inSteps_1 rfl (lv_at hl 1 rfl) ?_
  refine lv_icmp_lt (tgt := 24) hx hb dX4_inSteps_2 (by decide) (fun c1 => ?_) (fun c1 => ?_)
  · replace h := if_t h c1
    refine lv_iconst (v := 0) hx hb dX4_inSteps_24 (by decide) ?_
    exact ret ((0 : Int32)) (Option.some.inj h) _ _ _ _ _ (fun _ => 0) rfl rfl hP hD hS dX4_inSteps_25
  · replace h := if_f h c1
    refine lv_iload_n hx hb dX4_inSteps_5 rfl (lv_at hl 0 rfl) ?_
    refine lv_iload_n hx hb dX4_inSteps_6 rfl (lv_at hl 2 rfl) ?_
    refine lv_icmp_gt (tgt := 24) hx hb dX4_inSteps_7 (by decide) (fun c2 => ?_) (fun c2 => ?_)
    · replace h := if_t h c2
      refine lv_iconst (v := 0) hx hb dX4_inSteps_24 (by decide) ?_
      exact ret ((0 : Int32)) (Option.some.inj h) _ _ _ _ _ (fun _ => 0) rfl rfl hP hD hS dX4_inSteps_25
    · replace h := if_f h c2
      refine lv_iload_n hx hb dX4_inSteps_10 rfl (lv_at hl 3 rfl) ?_
      refine lv_if_le (tgt := 24) hx hb dX4_inSteps_11 (by decide) (fun c3 => ?_) (fun c3 => ?_)
      · replace h := if_t h c3
        refine lv_iconst (v := 0) hx hb dX4_inSteps_24 (by decide) ?_
        exact ret ((0 : Int32)) (Option.some.inj h) _ _ _ _ _ (fun _ => 0) rfl rfl hP hD hS dX4_inSteps_25
      · replace h := if_f h c3
        refine lv_iload_n hx hb dX4_inSteps_14 rfl (lv_at hl 0 rfl) ?_
        refine lv_iload_n hx hb dX4_inSteps_15 rfl (lv_at hl 3 rfl) ?_
        obtain ⟨g4, h⟩ := gnz_t h
        refine lv_irem hx hb dX4_inSteps_16 g4 ?_
        refine lv_topi (fun x5 ex5 => ?_)
        replace h := bn_t h ex5
        refine lv_if_ne (tgt := 24) hx hb dX4_inSteps_17 (by decide) (fun c6 => ?_) (fun c6 => ?_)
        · replace h := if_f h c6
          refine lv_iconst (v := 0) hx hb dX4_inSteps_24 (by decide) ?_
          exact ret ((0 : Int32)) (Option.some.inj h) _ _ _ _ _ (fun _ => 0) rfl rfl hP hD hS dX4_inSteps_25
        · replace h := if_t h c6
          refine lv_iconst (v := 1) hx hb dX4_inSteps_20 (by decide) ?_
          refine lv_goto (tgt := 25) hx hb dX4_inSteps_21 (by decide) ?_
          exact ret ((1 : Int32)) (Option.some.inj h) _ _ _ _ _ (fun _ => 0) rfl rfl hP hD hS dX4_inSteps_25
def f_X4_allowsSize (i1 : Int32) (p0_end : Int32) : Option (Int32) :=
  bd (f_X4_inSteps i1 p0_end (512 : Int32) (32 : Int32)) fun u1 =>
  gbo u1 <|
  some (u1)
abbrev w_rm_X4_allowsSize : Room := { frames := 1, cells := 0, slots := 0, locals := 23 }
set_option maxHeartbeats 4000000 in
set_option maxRecDepth 100000 in
theorem c_X4_allowsSize (l : Launch) (G : va_G) (E : ClassId × ClassId × ClassId) (hp0 : Nat) (p0_ram : Int32) (p0_end : Int32) (hp0_original : Nat) (i1 : Int32) (r : Int32) (h : f_X4_allowsSize i1 p0_end = some (r)) : MI l G E yX4_allowsSize cX4_allowsSize 2 .boolean w_rm_X4_allowsSize [.ref hp0, .int i1] [(hp0, .inr (4, [.int p0_ram, .int p0_end, .ref hp0_original]))] r (fun a => [(hp0, .inr (4, [.int p0_ram, .int p0_end, .ref hp0_original]))]) 0 0 := by
  refine MI_of (by decide) (Nat.le_of_ble_eq_true rfl) ?_
  intro p e s m args below meth c A Q hx hb hml hown hts hK hA hP hD hS ret ls hl
  replace ret : ∀ (R : (Int32)), R = (r) → ∀ (H : Heap) (locs : List Loc) (pc : Nat) (ls : Array Slot) (v : Int32) (a : Nat → Nat), v = R → narrow .boolean (.int v) = .int v → va_P G vwCl [(hp0, .inr (4, [.int p0_ram, .int p0_end, .ref hp0_original]))] H → va_D A [(hp0, .inr (4, [.int p0_ram, .int p0_end, .ref hp0_original]))] → va_S A s.heap H locs → decode cX4_allowsSize pc = .ok (.ireturn, 1) → W p l e w_rm_X4_allowsSize s m args below meth c H locs 0 0 Q (F0 m pc ls [.int v]) := by
    intro R hR
    subst hR
    exact ret
  replace hl : lv_has ls 2 [(0, .ref hp0), (1, .int i1)] := hl
  unfold f_X4_allowsSize at h
  refine lv_iload_n hx hb dX4_allowsSize_0 rfl (lv_at hl 1 rfl) ?_
  refine lv_aload_n hx hb dX4_allowsSize_1 rfl (lv_at hl 0 rfl) ?_
  refine getF (D := G) (ci := 4) (v := .int p0_end) (C := RX4) (T := TX4) (N := 3) hx hb hts inG_X4 hown hK.1 hP 0 rfl rfl 1 (by decide) tf_X4_1 (hts _ wd_545a78f7) rfl dX4_allowsSize_2 ?_
  refine lv_sipush (v := 512) hx hb dX4_allowsSize_5 (by decide) ?_
  refine lv_bipush (v := 32) hx hb dX4_allowsSize_8 (by decide) ?_
  obtain ⟨u1, hu1, h⟩ := bd_t h
  refine cSi (wr := [(hp0, .inr (4, [.int p0_ram, .int p0_end, .ref hp0_original]))]) (As := [.int i1, .int p0_end, .int (512 : Int32), .int (32 : Int32)]) (rest := []) ⟨hx, hb, hml, hown, hts⟩ (c_X4_inSteps l G E i1 p0_end (512 : Int32) (32 : Int32) u1 hu1) ok_X4_inSteps oks_X4_inSteps wd_761ff0ff ⟨Nat.le_of_ble_eq_true rfl, Nat.le_of_ble_eq_true rfl⟩ hK hP hD hS hA [] [0] rfl rfl (by decide) (by decide) (by decide) rfl hl.1 rfl (Nat.le_of_ble_eq_true rfl) dX4_allowsSize_10 ⟨Nat.le_of_ble_eq_true rfl, Nat.le_of_ble_eq_true rfl⟩ (fun H locs a2 hP hD hS => ?_)
  have hP : va_P G vwCl [(hp0, .inr (4, [.int p0_ram, .int p0_end, .ref hp0_original]))] H := hP
  have hD : va_D A [(hp0, .inr (4, [.int p0_ram, .int p0_end, .ref hp0_original]))] := hD
  obtain ⟨g3, h⟩ := gbo_t h
  exact ret (u1) (Option.some.inj h) _ _ _ _ _ (fun _ => 0) rfl (bo_nar g3) hP hD hS dX4_allowsSize_13
def B_X4_init_65 (i1 : Int32) (y9 : Int32) (rec65 : (Nat → Int32) → Int32 → Option (Int32 × Int32 × (Nat → Int32))) (K120 : (Nat → Int32) → Int32 → Option (Int32 × Int32 × (Nat → Int32))) (z10 : (Nat → Int32)) (z11 : Int32) : Option (Int32 × Int32 × (Nat → Int32)) :=
  if y9 ≤ z11 then (
  K120 z10 z11)
  else
  if (512 : Int32) ≤ z11 then (
  K120 z10 z11)
  else
  bn (((((37 : Int32) * z11) + (i1 * ((z11 / (16 : Int32)) + (1 : Int32)))) + (z11 / (7 : Int32))) &&& (255 : Int32)) fun x14 =>
  gin z11 512 <|
  bn (upd z10 z11.toNatClampNeg x14) fun m16 =>
  bn (z11 + 1) fun x17 =>
  rec65 m16 x17
def L_X4_init_65 (i1 : Int32) (y9 : Int32) (K120 : (Nat → Int32) → Int32 → Option (Int32 × Int32 × (Nat → Int32))) : Nat → (Nat → Int32) → Int32 → Option (Int32 × Int32 × (Nat → Int32))
    | 0, _, _ => none
    | n + 1, z10, z11 => B_X4_init_65 i1 y9 (fun z10 z11 => L_X4_init_65 i1 y9 K120 n z10 z11) K120 z10 z11
def J_X4_init_59 (N : Nat) (i1 : Int32) (y5 : Int32) (y9 : Int32) : Option (Int32 × Int32 × (Nat → Int32)) :=
  L_X4_init_65 i1 y9 
  (fun z10 z11 =>
  some (y5, y9, z10)) N (fun _ => 0) (0 : Int32)
def J_X4_init_33 (N : Nat) (i1 : Int32) (i3 : Int32) (y5 : Int32) : Option (Int32 × Int32 × (Nat → Int32)) :=
  bd (f_X4_inSteps i3 (128 : Int32) (256 : Int32) (32 : Int32)) fun u6 =>
  if u6 = 0 then (
  J_X4_init_59 N i1 y5 (128 : Int32))
  else
  J_X4_init_59 N i1 y5 i3
def f_X4_init (N : Nat) (i1 : Int32) (i2 : Int32) (i3 : Int32) : Option (Int32 × Int32 × (Nat → Int32)) :=
  bd (f_X4_inSteps i2 (16 : Int32) (96 : Int32) (16 : Int32)) fun u2 =>
  if u2 = 0 then (
  J_X4_init_33 N i1 i3 (16 : Int32))
  else
  J_X4_init_33 N i1 i3 i2
abbrev w_rm_X4_init : Room := { frames := 1, cells := 1, slots := 512, locals := 23 }
set_option maxHeartbeats 4000000 in
set_option maxRecDepth 100000 in
theorem c_X4_init (l : Launch) (G : va_G) (E : ClassId × ClassId × ClassId) (N : Nat) (hp0 : Nat) (i1 : Int32) (i2 : Int32) (i3 : Int32) (o0 : Int32) (o1 : Int32) (o2 : (Nat → Int32)) (h : f_X4_init N i1 i2 i3 = some (o0, o1, o2)) : MV l G E yX4_init cX4_init 5 w_rm_X4_init [.ref hp0, .int i1, .int i2, .int i3] [(hp0, .inr (4, [.int (0 : Int32), .int (0 : Int32), .null]))] (fun a => [(hp0, .inr (4, [.int o0, .int o1, .ref (a 0)])), ((a 0), .inl (E.1, 512, .inl o2))]) 1 512 := by
  refine MV_of (by decide) (Nat.le_of_ble_eq_true rfl) ?_
  intro p e s m args below meth c A Q hx hb hml hown hin hts hK hA hP hD hS ret ls hl
  replace hin := hin rfl
  replace ret : ∀ (R : (Int32 × Int32 × (Nat → Int32))), R = (o0, o1, o2) → ∀ (H : Heap) (locs : List Loc) (pc : Nat) (ls : Array Slot) (a : Nat → Nat), va_P G vwCl [(hp0, .inr (4, [.int R.1, .int R.2.1, .ref (a 0)])), ((a 0), .inl (E.1, 512, .inl R.2.2))] H → va_D A [(hp0, .inr (4, [.int R.1, .int R.2.1, .ref (a 0)])), ((a 0), .inl (E.1, 512, .inl R.2.2))] → va_S A s.heap H locs → decode cX4_init pc = .ok (.return_, 1) → W p l e w_rm_X4_init s m args below meth c H locs 1 512 Q (F0 m pc ls []) := by
    intro R hR
    subst hR
    exact ret
  replace hl : lv_has ls 5 [(0, .ref hp0), (1, .int i1), (2, .int i2), (3, .int i3)] := hl
  unfold f_X4_init at h
  refine lv_aload_n hx hb dX4_init_0 rfl (lv_at hl 0 rfl) ?_
  refine W.objInit hx hb hown (hts _ wd_c35361d8) (hts _ wd_449f795d) (hts _ wd_679af842) rfl (by rw [hml]; exact hl.1) rfl dX4_init_1 (Nat.le_of_ble_eq_true rfl) (Nat.le_of_ble_eq_true rfl) ?_
  refine W.eq (g2 := F0 m 4 ls []) rfl ?_
  refine lv_aload_n hx hb dX4_init_4 rfl (lv_at hl 0 rfl) ?_
  refine lv_sipush (v := 512) hx hb dX4_init_5 (by decide) ?_
  refine va_newa (atype := .int) (ty := .int) (N' := 512) (a0 := (512, .inl (fun _ => 0))) hx hb (hts _ wd_c201d5c8) rfl hK.1 hP hD hS hA (fun _ => rfl) (by decide) (by decide) (by decide) (Nat.le_of_ble_eq_true rfl) (Nat.le_of_ble_eq_true rfl) dX4_init_8 (fun q1 cA H hK9 hP hD hS => ?_)
  obtain rfl := ct_int hK hK9
  have hP : va_P G vwCl [(hp0, .inr (4, [.int (0 : Int32), .int (0 : Int32), .null])), (q1, .inl (E.1, 512, .inl (fun _ => 0)))] H := hP
  have hD : va_D A [(hp0, .inr (4, [.int (0 : Int32), .int (0 : Int32), .null])), (q1, .inl (E.1, 512, .inl (fun _ => 0)))] := hD
  refine putFF (D := G) (ci := 4) (v := .ref q1) (ty := .array .int) (C := RX4) (T := TX4) (N := 3) hx hb hts inG_X4 tyX4 tyX4_ok nmX4 hown hK.1 hP hD hS 0 rfl rfl 2 (by decide) tf_X4_2 (hts _ wd_fece7429) hin pd_AI rfl rfl (Nat.le_of_ble_eq_true rfl) dX4_init_10 (fun H locs hP hD hS => ?_)
  have hP : va_P G vwCl [(hp0, .inr (4, [.int (0 : Int32), .int (0 : Int32), .ref q1])), (q1, .inl (E.1, 512, .inl (fun _ => 0)))] H := hP
  have hD : va_D A [(hp0, .inr (4, [.int (0 : Int32), .int (0 : Int32), .ref q1])), (q1, .inl (E.1, 512, .inl (fun _ => 0)))] := hD
  refine lv_aload_n hx hb dX4_init_13 rfl (lv_at hl 0 rfl) ?_
  refine lv_iload_n hx hb dX4_init_14 rfl (lv_at hl 2 rfl) ?_
  refine lv_bipush (v := 16) hx hb dX4_init_15 (by decide) ?_
  refine lv_bipush (v := 96) hx hb dX4_init_17 (by decide) ?_
  refine lv_bipush (v := 16) hx hb dX4_init_19 (by decide) ?_
  obtain ⟨u2, hu2, h⟩ := bd_t h
  refine cSi (wr := [(hp0, .inr (4, [.int (0 : Int32), .int (0 : Int32), .ref q1])), (q1, .inl (E.1, 512, .inl (fun _ => 0)))]) (As := [.int i2, .int (16 : Int32), .int (96 : Int32), .int (16 : Int32)]) (rest := [.ref hp0]) ⟨hx, hb, hml, hown, hts⟩ (c_X4_inSteps l G E i2 (16 : Int32) (96 : Int32) (16 : Int32) u2 hu2) ok_X4_inSteps oks_X4_inSteps wd_761ff0ff ⟨Nat.le_of_ble_eq_true rfl, Nat.le_of_ble_eq_true rfl⟩ hK hP hD hS hA [] [0, 1] rfl rfl (by decide) (by decide) (by decide) rfl hl.1 rfl (Nat.le_of_ble_eq_true rfl) dX4_init_21 ⟨Nat.le_of_ble_eq_true rfl, Nat.le_of_ble_eq_true rfl⟩ (fun H locs a3 hP hD hS => ?_)
  have hP : va_P G vwCl [(hp0, .inr (4, [.int (0 : Int32), .int (0 : Int32), .ref q1])), (q1, .inl (E.1, 512, .inl (fun _ => 0)))] H := hP
  have hD : va_D A [(hp0, .inr (4, [.int (0 : Int32), .int (0 : Int32), .ref q1])), (q1, .inl (E.1, 512, .inl (fun _ => 0)))] := hD
  have hJ33 : ∀ (y5 : Int32), J_X4_init_33 N i1 i3 y5 = some (o0, o1, o2) → ∀ (H : Heap) (locs : List Loc) (ls : Array Slot), va_P G vwCl [(hp0, .inr (4, [.int (0 : Int32), .int (0 : Int32), .ref q1])), (q1, .inl (E.1, 512, .inl (fun _ => 0)))] H → va_D A [(hp0, .inr (4, [.int (0 : Int32), .int (0 : Int32), .ref q1])), (q1, .inl (E.1, 512, .inl (fun _ => 0)))] → va_S A s.heap H locs → lv_has ls 5 [(0, .ref hp0), (1, .int i1), (3, .int i3)] → W p l e w_rm_X4_init s m args below meth c H locs 1 512 Q (F0 m 33 ls [.int y5, .ref hp0]) := by
    intro y5 h H locs ls hP hD hS hl
    unfold J_X4_init_33 at h
    refine putFF (D := G) (ci := 4) (v := .int y5) (ty := .int) (C := RX4) (T := TX4) (N := 3) hx hb hts inG_X4 tyX4 tyX4_ok nmX4 hown hK.1 hP hD hS 0 rfl rfl 0 (by decide) tf_X4_0 (hts _ wd_491a4ae5) hin pd_I rfl rfl (Nat.le_of_ble_eq_true rfl) dX4_init_33 (fun H locs hP hD hS => ?_)
    have hP : va_P G vwCl [(hp0, .inr (4, [.int y5, .int (0 : Int32), .ref q1])), (q1, .inl (E.1, 512, .inl (fun _ => 0)))] H := hP
    have hD : va_D A [(hp0, .inr (4, [.int y5, .int (0 : Int32), .ref q1])), (q1, .inl (E.1, 512, .inl (fun _ => 0)))] := hD
    refine lv_aload_n hx hb dX4_init_36 rfl (lv_at hl 0 rfl) ?_
    refine lv_iload_n hx hb dX4_init_37 rfl (lv_at hl 2 rfl) ?_
    refine lv_sipush (v := 128) hx hb dX4_init_38 (by decide) ?_
    refine lv_sipush (v := 256) hx hb dX4_init_41 (by decide) ?_
    refine lv_bipush (v := 32) hx hb dX4_init_44 (by decide) ?_
    obtain ⟨u6, hu6, h⟩ := bd_t h
    refine cSi (wr := [(hp0, .inr (4, [.int y5, .int (0 : Int32), .ref q1])), (q1, .inl (E.1, 512, .inl (fun _ => 0)))]) (As := [.int i3, .int (128 : Int32), .int (256 : Int32), .int (32 : Int32)]) (rest := [.ref hp0]) ⟨hx, hb, hml, hown, hts⟩ (c_X4_inSteps l G E i3 (128 : Int32) (256 : Int32) (32 : Int32) u6 hu6) ok_X4_inSteps oks_X4_inSteps wd_761ff0ff ⟨Nat.le_of_ble_eq_true rfl, Nat.le_of_ble_eq_true rfl⟩ hK hP hD hS hA [] [0, 1] rfl rfl (by decide) (by decide) (by decide) rfl hl.1 rfl (Nat.le_of_ble_eq_true rfl) dX4_init_46 ⟨Nat.le_of_ble_eq_true rfl, Nat.le_of_ble_eq_true rfl⟩ (fun H locs a7 hP hD hS => ?_)
    have hP : va_P G vwCl [(hp0, .inr (4, [.int y5, .int (0 : Int32), .ref q1])), (q1, .inl (E.1, 512, .inl (fun _ => 0)))] H := hP
    have hD : va_D A [(hp0, .inr (4, [.int y5, .int (0 : Int32), .ref q1])), (q1, .inl (E.1, 512, .inl (fun _ => 0)))] := hD
    have hJ59 : ∀ (y9 : Int32), J_X4_init_59 N i1 y5 y9 = some (o0, o1, o2) → ∀ (H : Heap) (locs : List Loc) (ls : Array Slot), va_P G vwCl [(hp0, .inr (4, [.int y5, .int (0 : Int32), .ref q1])), (q1, .inl (E.1, 512, .inl (fun _ => 0)))] H → va_D A [(hp0, .inr (4, [.int y5, .int (0 : Int32), .ref q1])), (q1, .inl (E.1, 512, .inl (fun _ => 0)))] → va_S A s.heap H locs → lv_has ls 5 [(0, .ref hp0), (1, .int i1)] → W p l e w_rm_X4_init s m args below meth c H locs 1 512 Q (F0 m 59 ls [.int y9, .ref hp0]) := by
      intro y9 h H locs ls hP hD hS hl
      unfold J_X4_init_59 at h
      refine putFF (D := G) (ci := 4) (v := .int y9) (ty := .int) (C := RX4) (T := TX4) (N := 3) hx hb hts inG_X4 tyX4 tyX4_ok nmX4 hown hK.1 hP hD hS 0 rfl rfl 1 (by decide) tf_X4_1 (hts _ wd_545a78f7) hin pd_I rfl rfl (Nat.le_of_ble_eq_true rfl) dX4_init_59 (fun H locs hP hD hS => ?_)
      have hP : va_P G vwCl [(hp0, .inr (4, [.int y5, .int y9, .ref q1])), (q1, .inl (E.1, 512, .inl (fun _ => 0)))] H := hP
      have hD : va_D A [(hp0, .inr (4, [.int y5, .int y9, .ref q1])), (q1, .inl (E.1, 512, .inl (fun _ => 0)))] := hD
      refine lv_iconst (v := 0) hx hb dX4_init_62 (by decide) ?_
      refine lv_istore (lv' := [(4, .int (0 : Int32)), (0, .ref hp0), (1, .int i1)]) hx hb dX4_init_63 hl (by decide) rfl (fun ls hl => ?_)
      have hL65 : ∀ (K120 : (Nat → Int32) → Int32 → Option (Int32 × Int32 × (Nat → Int32))), (∀ (z10 : (Nat → Int32)) (z11 : Int32), K120 z10 z11 = some (o0, o1, o2) → ∀ (H : Heap) (locs : List Loc) (ls : Array Slot), va_P G vwCl [(hp0, .inr (4, [.int y5, .int y9, .ref q1])), (q1, .inl (E.1, 512, .inl z10))] H → va_D A [(hp0, .inr (4, [.int y5, .int y9, .ref q1])), (q1, .inl (E.1, 512, .inl z10))] → va_S A s.heap H locs → lv_has ls 5 [] → W p l e w_rm_X4_init s m args below meth c H locs 1 512 Q (F0 m 120 ls [])) → ∀ (n : Nat) (z10 : (Nat → Int32)) (z11 : Int32), L_X4_init_65 i1 y9 K120 n z10 z11 = some (o0, o1, o2) → ∀ (H : Heap) (locs : List Loc) (ls : Array Slot), va_P G vwCl [(hp0, .inr (4, [.int y5, .int y9, .ref q1])), (q1, .inl (E.1, 512, .inl z10))] H → va_D A [(hp0, .inr (4, [.int y5, .int y9, .ref q1])), (q1, .inl (E.1, 512, .inl z10))] → va_S A s.heap H locs → lv_has ls 5 [(0, .ref hp0), (1, .int i1), (4, .int z11)] → W p l e w_rm_X4_init s m args below meth c H locs 1 512 Q (F0 m 65 ls []) := by
        intro K120 hK120 n
        induction n with
        | zero =>
          intro z10 z11 h
          replace h : (none : Option (Int32 × Int32 × (Nat → Int32))) = some (o0, o1, o2) := h
          cases h
        | succ n ih =>
          intro z10 z11 h H locs ls hP hD hS hl
          replace h : B_X4_init_65 i1 y9 (fun z10 z11 => L_X4_init_65 i1 y9 K120 n z10 z11) K120 z10 z11 = some (o0, o1, o2) := h
          obtain ⟨rec65, hrec65⟩ : ∃ f : (Nat → Int32) → Int32 → Option (Int32 × Int32 × (Nat → Int32)), f = (fun z10 z11 => L_X4_init_65 i1 y9 K120 n z10 z11) := ⟨_, rfl⟩
          rw [← hrec65] at h
          unfold B_X4_init_65 at h
          refine lv_iload hx hb dX4_init_65 (lv_at hl 2 rfl) ?_
          refine lv_aload_n hx hb dX4_init_67 rfl (lv_at hl 0 rfl) ?_
          refine getF (D := G) (ci := 4) (v := .int y9) (C := RX4) (T := TX4) (N := 3) hx hb hts inG_X4 hown hK.1 hP 0 rfl rfl 1 (by decide) tf_X4_1 (hts _ wd_545a78f7) rfl dX4_init_68 ?_
          refine lv_icmp_ge (tgt := 120) hx hb dX4_init_71 (by decide) (fun c12 => ?_) (fun c12 => ?_)
          · replace h := if_t h c12
            exact hK120 z10 z11 h _ _ _ hP hD hS (lv_sub hl [] rfl)
          · replace h := if_f h c12
            refine lv_iload hx hb dX4_init_74 (lv_at hl 2 rfl) ?_
            refine lv_sipush (v := 512) hx hb dX4_init_76 (by decide) ?_
            refine lv_icmp_ge (tgt := 120) hx hb dX4_init_79 (by decide) (fun c13 => ?_) (fun c13 => ?_)
            · replace h := if_t h c13
              exact hK120 z10 z11 h _ _ _ hP hD hS (lv_sub hl [] rfl)
            · replace h := if_f h c13
              refine lv_aload_n hx hb dX4_init_82 rfl (lv_at hl 0 rfl) ?_
              refine getF (D := G) (ci := 4) (v := .ref q1) (C := RX4) (T := TX4) (N := 3) hx hb hts inG_X4 hown hK.1 hP 0 rfl rfl 2 (by decide) tf_X4_2 (hts _ wd_fece7429) rfl dX4_init_83 ?_
              refine lv_iload hx hb dX4_init_86 (lv_at hl 2 rfl) ?_
              refine lv_bipush (v := 37) hx hb dX4_init_88 (by decide) ?_
              refine lv_iload hx hb dX4_init_90 (lv_at hl 2 rfl) ?_
              refine lv_imul hx hb dX4_init_92 ?_
              refine lv_iload_n hx hb dX4_init_93 rfl (lv_at hl 1 rfl) ?_
              refine lv_iload hx hb dX4_init_94 (lv_at hl 2 rfl) ?_
              refine lv_bipush (v := 16) hx hb dX4_init_96 (by decide) ?_
              refine lv_idiv hx hb dX4_init_98 (by decide) ?_
              refine lv_iconst (v := 1) hx hb dX4_init_99 (by decide) ?_
              refine lv_iadd hx hb dX4_init_100 ?_
              refine lv_imul hx hb dX4_init_101 ?_
              refine lv_iadd hx hb dX4_init_102 ?_
              refine lv_iload hx hb dX4_init_103 (lv_at hl 2 rfl) ?_
              refine lv_bipush (v := 7) hx hb dX4_init_105 (by decide) ?_
              refine lv_idiv hx hb dX4_init_107 (by decide) ?_
              refine lv_iadd hx hb dX4_init_108 ?_
              refine lv_sipush (v := 255) hx hb dX4_init_109 (by decide) ?_
              refine lv_iand hx hb dX4_init_112 ?_
              refine lv_topi (fun x14 ex14 => ?_)
              replace h := bn_t h ex14
              obtain ⟨g15, h⟩ := gin_t h
              refine va_iast hx hb hK.1 hP hD hS 1 0 rfl rfl g15 dX4_init_113 (fun H locs hP hD hS => ?_)
              have hP : va_P G vwCl [(hp0, .inr (4, [.int y5, .int y9, .ref q1])), (q1, .inl (E.1, 512, .inl (upd z10 z11.toNatClampNeg x14)))] H := hP
              have hD : va_D A [(hp0, .inr (4, [.int y5, .int y9, .ref q1])), (q1, .inl (E.1, 512, .inl (upd z10 z11.toNatClampNeg x14)))] := hD
              obtain ⟨m16, em16⟩ : ∃ y : Nat → Int32, y = upd z10 z11.toNatClampNeg x14 := ⟨_, rfl⟩
              replace h := bn_t h em16
              rw [← em16] at hP hD
              obtain ⟨x17, ex17⟩ : ∃ y : Int32, y = z11 + 1 := ⟨_, rfl⟩
              replace h := bn_t h ex17
              refine lv_iinc (v := x17) (lv' := [(4, .int x17), (0, .ref hp0), (1, .int i1)]) hx hb dX4_init_114 hl (k := 2) rfl (by rw [ex17]; rfl) (by decide) rfl (fun ls hl => ?_)
              refine lv_goto (tgt := 65) hx hb dX4_init_117 (by decide) ?_
              exact ih m16 x17 (by rw [hrec65] at h; exact h) _ _ _ hP hD hS (lv_sub hl [1, 2, 0] rfl)
      refine hL65 _ (fun z10 z11 h H locs ls hP hD hS hl => ?_) N (fun _ => 0) (0 : Int32) h _ _ _ hP hD hS (lv_sub hl [1, 2, 0] rfl)
      try dsimp only at h
      exact ret (y5, y9, z10) (Option.some.inj h) _ _ _ _ (fun k => [q1].getD k 0) hP hD hS dX4_init_120
    refine lv_if_eq (tgt := 56) hx hb dX4_init_49 (by decide) (fun c8 => ?_) (fun c8 => ?_)
    · replace h := if_t h c8
      refine lv_sipush (v := 128) hx hb dX4_init_56 (by decide) ?_
      exact hJ59 (128 : Int32) h _ _ _ hP hD hS (lv_sub hl [0, 1] rfl)
    · replace h := if_f h c8
      refine lv_iload_n hx hb dX4_init_52 rfl (lv_at hl 2 rfl) ?_
      refine lv_goto (tgt := 59) hx hb dX4_init_53 (by decide) ?_
      exact hJ59 i3 h _ _ _ hP hD hS (lv_sub hl [0, 1] rfl)
  refine lv_if_eq (tgt := 31) hx hb dX4_init_24 (by decide) (fun c4 => ?_) (fun c4 => ?_)
  · replace h := if_t h c4
    refine lv_bipush (v := 16) hx hb dX4_init_31 (by decide) ?_
    exact hJ33 (16 : Int32) h _ _ _ hP hD hS (lv_sub hl [0, 1, 3] rfl)
  · replace h := if_f h c4
    refine lv_iload_n hx hb dX4_init_27 rfl (lv_at hl 2 rfl) ?_
    refine lv_goto (tgt := 33) hx hb dX4_init_28 (by decide) ?_
    exact hJ33 i2 h _ _ _ hP hD hS (lv_sub hl [0, 1, 3] rfl)
