def f_X6_openChunk (N : Nat) (i1 : Int32) (p0_size : Int32) (p0_overflowed : Int32) (p0_bytes : (Nat → Int32)) : Option (Int32 × (Nat → Int32) × Int32 × Int32) :=
  bd (f_X0_addFour N i1 p0_size p0_overflowed p0_bytes) fun u1 =>
  bd (f_X0_addFour N (0 : Int32) u1.2.1 u1.2.2 u1.1) fun u3 =>
  some (p0_size, u3.1, u3.2.1, u3.2.2)
abbrev w_rm_X6_openChunk : Room := { frames := 3, cells := 0, slots := 0, locals := 65 }
set_option maxHeartbeats 4000000 in
set_option maxRecDepth 100000 in
theorem c_X6_openChunk (l : Launch) (G : va_G) (E : ClassId × ClassId × ClassId) (N : Nat) (hp0 : Nat) (hp0_bytes : Nat) (p0_size : Int32) (p0_overflowed : Int32) (p0_bytes : (Nat → Int32)) (i1 : Int32) (r : Int32) (o0 : (Nat → Int32)) (o1 : Int32) (o2 : Int32) (h : f_X6_openChunk N i1 p0_size p0_overflowed p0_bytes = some (r, o0, o1, o2)) : MI l G E yX6_openChunk cX6_openChunk 3 .int w_rm_X6_openChunk [.ref hp0, .int i1] [(hp0, .inr (0, [.ref hp0_bytes, .int p0_size, .int p0_overflowed])), (hp0_bytes, .inl (E.1, 1200, .inl p0_bytes))] r (fun a => [(hp0, .inr (0, [.ref hp0_bytes, .int o1, .int o2])), (hp0_bytes, .inl (E.1, 1200, .inl o0))]) 0 0 := by
  refine MI_of (by decide) (Nat.le_of_ble_eq_true rfl) ?_
  intro p e s m args below meth c A Q hx hb hml hown hts hK hA hP hD hS ret ls hl
  replace ret : ∀ (R : (Int32 × (Nat → Int32) × Int32 × Int32)), R = (r, o0, o1, o2) → ∀ (H : Heap) (locs : List Loc) (pc : Nat) (ls : Array Slot) (v : Int32) (a : Nat → Nat), v = R.1 → narrow .int (.int v) = .int v → va_P G vwCl [(hp0, .inr (0, [.ref hp0_bytes, .int R.2.2.1, .int R.2.2.2])), (hp0_bytes, .inl (E.1, 1200, .inl R.2.1))] H → va_D A [(hp0, .inr (0, [.ref hp0_bytes, .int R.2.2.1, .int R.2.2.2])), (hp0_bytes, .inl (E.1, 1200, .inl R.2.1))] → va_S A s.heap H locs → decode cX6_openChunk pc = .ok (.ireturn, 1) → W p l e w_rm_X6_openChunk s m args below meth c H locs 0 0 Q (F0 m pc ls [.int v]) := by
    intro R hR
    subst hR
    exact ret
  replace hl : lv_has ls 3 [(0, .ref hp0), (1, .int i1)] := hl
  unfold f_X6_openChunk at h
  refine lv_aload_n hx hb dX6_openChunk_0 rfl (lv_at hl 0 rfl) ?_
  refine getF (D := G) (ci := 0) (v := .int p0_size) (C := RX0) (T := TX0) (N := 3) hx hb hts inG_X0 hown hK.1 hP 0 rfl rfl 1 (by decide) tf_X0_1 (hts _ wd_b1109c57) rfl dX6_openChunk_1 ?_
  refine lv_istore_n (lv' := [(2, .int p0_size), (0, .ref hp0), (1, .int i1)]) hx hb dX6_openChunk_4 rfl hl (by decide) rfl (fun ls hl => ?_)
  refine lv_aload_n hx hb dX6_openChunk_5 rfl (lv_at hl 1 rfl) ?_
  refine lv_iload_n hx hb dX6_openChunk_6 rfl (lv_at hl 2 rfl) ?_
  obtain ⟨u1, hu1, h⟩ := bd_t h
  refine cVv (wr := []) (As := [.int i1]) (rest := []) ⟨hx, hb, hml, hown, hts⟩ (c_X0_addFour l G E N hp0 hp0_bytes p0_size p0_overflowed p0_bytes i1 u1.1 u1.2.1 u1.2.2 hu1) ok_X0_addFour okv_X0_addFour wd_9d46658a ⟨Nat.le_of_ble_eq_true rfl, Nat.le_of_ble_eq_true rfl⟩ hK hP hD hS hA [0, 1] [] rfl rfl (by decide) (by decide) (by decide) (va_recv hK.1 hP (ci := 0) (q0 := 0) rfl rfl) rfl hl.1 rfl (Nat.le_of_ble_eq_true rfl) dX6_openChunk_7 ⟨Nat.le_of_ble_eq_true rfl, Nat.le_of_ble_eq_true rfl⟩ (fun H locs a2 hP hD hS => ?_)
  have hP : va_P G vwCl [(hp0, .inr (0, [.ref hp0_bytes, .int u1.2.1, .int u1.2.2])), (hp0_bytes, .inl (E.1, 1200, .inl u1.1))] H := hP
  have hD : va_D A [(hp0, .inr (0, [.ref hp0_bytes, .int u1.2.1, .int u1.2.2])), (hp0_bytes, .inl (E.1, 1200, .inl u1.1))] := hD
  refine lv_aload_n hx hb dX6_openChunk_10 rfl (lv_at hl 1 rfl) ?_
  refine lv_iconst (v := 0) hx hb dX6_openChunk_11 (by decide) ?_
  obtain ⟨u3, hu3, h⟩ := bd_t h
  refine cVv (wr := []) (As := [.int (0 : Int32)]) (rest := []) ⟨hx, hb, hml, hown, hts⟩ (c_X0_addFour l G E N hp0 hp0_bytes u1.2.1 u1.2.2 u1.1 (0 : Int32) u3.1 u3.2.1 u3.2.2 hu3) ok_X0_addFour okv_X0_addFour wd_9d46658a ⟨Nat.le_of_ble_eq_true rfl, Nat.le_of_ble_eq_true rfl⟩ hK hP hD hS hA [0, 1] [] rfl rfl (by decide) (by decide) (by decide) (va_recv hK.1 hP (ci := 0) (q0 := 0) rfl rfl) rfl hl.1 rfl (Nat.le_of_ble_eq_true rfl) dX6_openChunk_12 ⟨Nat.le_of_ble_eq_true rfl, Nat.le_of_ble_eq_true rfl⟩ (fun H locs a4 hP hD hS => ?_)
  have hP : va_P G vwCl [(hp0, .inr (0, [.ref hp0_bytes, .int u3.2.1, .int u3.2.2])), (hp0_bytes, .inl (E.1, 1200, .inl u3.1))] H := hP
  have hD : va_D A [(hp0, .inr (0, [.ref hp0_bytes, .int u3.2.1, .int u3.2.2])), (hp0_bytes, .inl (E.1, 1200, .inl u3.1))] := hD
  refine lv_iload_n hx hb dX6_openChunk_15 rfl (lv_at hl 0 rfl) ?_
  exact ret (p0_size, u3.1, u3.2.1, u3.2.2) (Option.some.inj h) _ _ _ _ _ (fun _ => 0) rfl rfl hP hD hS dX6_openChunk_16
def f_X6_closeChunk (N : Nat) (i1 : Int32) (p0_size : Int32) (p0_overflowed : Int32) (p0_bytes : (Nat → Int32)) : Option ((Nat → Int32) × Int32 × Int32) :=
  bn ((p0_size - i1) - (8 : Int32)) fun x1 =>
  bd (f_X0_setFour N (i1 + (4 : Int32)) x1 p0_bytes) fun u2 =>
  if (x1 &&& (1 : Int32)) = 0 then (
  some (u2, p0_size, p0_overflowed))
  else
  bd (f_X0_add (0 : Int32) p0_size p0_overflowed u2) fun u5 =>
  some (u5.1, u5.2.1, u5.2.2)
abbrev w_rm_X6_closeChunk : Room := { frames := 2, cells := 0, slots := 0, locals := 45 }
set_option maxHeartbeats 4000000 in
set_option maxRecDepth 100000 in
theorem c_X6_closeChunk (l : Launch) (G : va_G) (E : ClassId × ClassId × ClassId) (N : Nat) (hp0 : Nat) (hp0_bytes : Nat) (p0_size : Int32) (p0_overflowed : Int32) (p0_bytes : (Nat → Int32)) (i1 : Int32) (o0 : (Nat → Int32)) (o1 : Int32) (o2 : Int32) (h : f_X6_closeChunk N i1 p0_size p0_overflowed p0_bytes = some (o0, o1, o2)) : MV l G E yX6_closeChunk cX6_closeChunk 3 w_rm_X6_closeChunk [.ref hp0, .int i1] [(hp0, .inr (0, [.ref hp0_bytes, .int p0_size, .int p0_overflowed])), (hp0_bytes, .inl (E.1, 1200, .inl p0_bytes))] (fun a => [(hp0, .inr (0, [.ref hp0_bytes, .int o1, .int o2])), (hp0_bytes, .inl (E.1, 1200, .inl o0))]) 0 0 := by
  refine MV_of (by decide) (Nat.le_of_ble_eq_true rfl) ?_
  intro p e s m args below meth c A Q hx hb hml hown hin hts hK hA hP hD hS ret ls hl
  replace ret : ∀ (R : ((Nat → Int32) × Int32 × Int32)), R = (o0, o1, o2) → ∀ (H : Heap) (locs : List Loc) (pc : Nat) (ls : Array Slot) (a : Nat → Nat), va_P G vwCl [(hp0, .inr (0, [.ref hp0_bytes, .int R.2.1, .int R.2.2])), (hp0_bytes, .inl (E.1, 1200, .inl R.1))] H → va_D A [(hp0, .inr (0, [.ref hp0_bytes, .int R.2.1, .int R.2.2])), (hp0_bytes, .inl (E.1, 1200, .inl R.1))] → va_S A s.heap H locs → decode cX6_closeChunk pc = .ok (.return_, 1) → W p l e w_rm_X6_closeChunk s m args below meth c H locs 0 0 Q (F0 m pc ls []) := by
    intro R hR
    subst hR
    exact ret
  replace hl : lv_has ls 3 [(0, .ref hp0), (1, .int i1)] := hl
  unfold f_X6_closeChunk at h
  refine lv_aload_n hx hb dX6_closeChunk_0 rfl (lv_at hl 0 rfl) ?_
  refine getF (D := G) (ci := 0) (v := .int p0_size) (C := RX0) (T := TX0) (N := 3) hx hb hts inG_X0 hown hK.1 hP 0 rfl rfl 1 (by decide) tf_X0_1 (hts _ wd_b1109c57) rfl dX6_closeChunk_1 ?_
  refine lv_iload_n hx hb dX6_closeChunk_4 rfl (lv_at hl 1 rfl) ?_
  refine lv_isub hx hb dX6_closeChunk_5 ?_
  refine lv_bipush (v := 8) hx hb dX6_closeChunk_6 (by decide) ?_
  refine lv_isub hx hb dX6_closeChunk_8 ?_
  refine lv_topi (fun x1 ex1 => ?_)
  replace h := bn_t h ex1
  refine lv_istore_n (lv' := [(2, .int x1), (0, .ref hp0), (1, .int i1)]) hx hb dX6_closeChunk_9 rfl hl (by decide) rfl (fun ls hl => ?_)
  refine lv_aload_n hx hb dX6_closeChunk_10 rfl (lv_at hl 1 rfl) ?_
  refine lv_iload_n hx hb dX6_closeChunk_11 rfl (lv_at hl 2 rfl) ?_
  refine lv_iconst (v := 4) hx hb dX6_closeChunk_12 (by decide) ?_
  refine lv_iadd hx hb dX6_closeChunk_13 ?_
  refine lv_iload_n hx hb dX6_closeChunk_14 rfl (lv_at hl 0 rfl) ?_
  obtain ⟨u2, hu2, h⟩ := bd_t h
  refine cVv (wr := []) (As := [.int (i1 + (4 : Int32)), .int x1]) (rest := []) ⟨hx, hb, hml, hown, hts⟩ (c_X0_setFour l G E N hp0 hp0_bytes p0_size p0_overflowed p0_bytes (i1 + (4 : Int32)) x1 u2 hu2) ok_X0_setFour okv_X0_setFour wd_dda7648f ⟨Nat.le_of_ble_eq_true rfl, Nat.le_of_ble_eq_true rfl⟩ hK hP hD hS hA [0, 1] [] rfl rfl (by decide) (by decide) (by decide) (va_recv hK.1 hP (ci := 0) (q0 := 0) rfl rfl) rfl hl.1 rfl (Nat.le_of_ble_eq_true rfl) dX6_closeChunk_15 ⟨Nat.le_of_ble_eq_true rfl, Nat.le_of_ble_eq_true rfl⟩ (fun H locs a3 hP hD hS => ?_)
  have hP : va_P G vwCl [(hp0, .inr (0, [.ref hp0_bytes, .int p0_size, .int p0_overflowed])), (hp0_bytes, .inl (E.1, 1200, .inl u2))] H := hP
  have hD : va_D A [(hp0, .inr (0, [.ref hp0_bytes, .int p0_size, .int p0_overflowed])), (hp0_bytes, .inl (E.1, 1200, .inl u2))] := hD
  refine lv_iload_n hx hb dX6_closeChunk_18 rfl (lv_at hl 0 rfl) ?_
  refine lv_iconst (v := 1) hx hb dX6_closeChunk_19 (by decide) ?_
  refine lv_iand hx hb dX6_closeChunk_20 ?_
  refine lv_if_eq (tgt := 29) hx hb dX6_closeChunk_21 (by decide) (fun c4 => ?_) (fun c4 => ?_)
  · replace h := if_t h c4
    exact ret (u2, p0_size, p0_overflowed) (Option.some.inj h) _ _ _ _ (fun _ => 0) hP hD hS dX6_closeChunk_29
  · replace h := if_f h c4
    refine lv_aload_n hx hb dX6_closeChunk_24 rfl (lv_at hl 1 rfl) ?_
    refine lv_iconst (v := 0) hx hb dX6_closeChunk_25 (by decide) ?_
    obtain ⟨u5, hu5, h⟩ := bd_t h
    refine cVv (wr := []) (As := [.int (0 : Int32)]) (rest := []) ⟨hx, hb, hml, hown, hts⟩ (c_X0_add l G E hp0 hp0_bytes p0_size p0_overflowed u2 (0 : Int32) u5.1 u5.2.1 u5.2.2 hu5) ok_X0_add okv_X0_add wd_1c73391c ⟨Nat.le_of_ble_eq_true rfl, Nat.le_of_ble_eq_true rfl⟩ hK hP hD hS hA [0, 1] [] rfl rfl (by decide) (by decide) (by decide) (va_recv hK.1 hP (ci := 0) (q0 := 0) rfl rfl) rfl hl.1 rfl (Nat.le_of_ble_eq_true rfl) dX6_closeChunk_26 ⟨Nat.le_of_ble_eq_true rfl, Nat.le_of_ble_eq_true rfl⟩ (fun H locs a6 hP hD hS => ?_)
    have hP : va_P G vwCl [(hp0, .inr (0, [.ref hp0_bytes, .int u5.2.1, .int u5.2.2])), (hp0_bytes, .inl (E.1, 1200, .inl u5.1))] H := hP
    have hD : va_D A [(hp0, .inr (0, [.ref hp0_bytes, .int u5.2.1, .int u5.2.2])), (hp0_bytes, .inl (E.1, 1200, .inl u5.1))] := hD
    exact ret (u5.1, u5.2.1, u5.2.2) (Option.some.inj h) _ _ _ _ (fun _ => 0) hP hD hS dX6_closeChunk_29
def B_X6_writeHead_9 (p1_original : (Nat → Int32)) (rec9 : (Nat → Int32) → Int32 → Int32 → Int32 → Option ((Nat → Int32) × Int32 × Int32)) (K31 : (Nat → Int32) → Int32 → Int32 → Int32 → Option ((Nat → Int32) × Int32 × Int32)) (z3 : (Nat → Int32)) (z4 : Int32) (z5 : Int32) (z6 : Int32) : Option ((Nat → Int32) × Int32 × Int32) :=
  if (16 : Int32) ≤ z6 then (
  K31 z3 z4 z5 z6)
  else
  gin z6 512 <|
  bd (f_X0_add (p1_original z6.toNatClampNeg) z4 z5 z3) fun u9 =>
  bn (z6 + 1) fun x11 =>
  rec9 u9.1 u9.2.1 u9.2.2 x11
def L_X6_writeHead_9 (p1_original : (Nat → Int32)) (K31 : (Nat → Int32) → Int32 → Int32 → Int32 → Option ((Nat → Int32) × Int32 × Int32)) : Nat → (Nat → Int32) → Int32 → Int32 → Int32 → Option ((Nat → Int32) × Int32 × Int32)
    | 0, _, _, _, _ => none
    | n + 1, z3, z4, z5, z6 => B_X6_writeHead_9 p1_original (fun z3 z4 z5 z6 => L_X6_writeHead_9 p1_original K31 n z3 z4 z5 z6) K31 z3 z4 z5 z6
def f_X6_writeHead (N : Nat) (p0_size : Int32) (p0_overflowed : Int32) (p0_bytes : (Nat → Int32)) (p1_original : (Nat → Int32)) : Option ((Nat → Int32) × Int32 × Int32) :=
  bd (f_X6_openChunk N (1229351012 : Int32) p0_size p0_overflowed p0_bytes) fun u1 =>
  L_X6_writeHead_9 p1_original 
  (fun z3 z4 z5 z6 =>
  bd (f_X6_closeChunk N u1.1 z4 z5 z3) fun u12 =>
  some (u12.1, u12.2.1, u12.2.2)) N u1.2.1 u1.2.2.1 u1.2.2.2 (0 : Int32)
abbrev w_rm_X6_writeHead : Room := { frames := 4, cells := 0, slots := 0, locals := 87 }
set_option maxHeartbeats 4000000 in
set_option maxRecDepth 100000 in
theorem c_X6_writeHead (l : Launch) (G : va_G) (E : ClassId × ClassId × ClassId) (N : Nat) (hp0 : Nat) (hp0_bytes : Nat) (p0_size : Int32) (p0_overflowed : Int32) (p0_bytes : (Nat → Int32)) (hp1 : Nat) (p1_ram : Int32) (p1_end : Int32) (hp1_original : Nat) (p1_original : (Nat → Int32)) (o0 : (Nat → Int32)) (o1 : Int32) (o2 : Int32) (h : f_X6_writeHead N p0_size p0_overflowed p0_bytes p1_original = some (o0, o1, o2)) : MV l G E yX6_writeHead cX6_writeHead 4 w_rm_X6_writeHead [.ref hp0, .ref hp1] [(hp0, .inr (0, [.ref hp0_bytes, .int p0_size, .int p0_overflowed])), (hp0_bytes, .inl (E.1, 1200, .inl p0_bytes)), (hp1, .inr (4, [.int p1_ram, .int p1_end, .ref hp1_original])), (hp1_original, .inl (E.1, 512, .inl p1_original))] (fun a => [(hp0, .inr (0, [.ref hp0_bytes, .int o1, .int o2])), (hp0_bytes, .inl (E.1, 1200, .inl o0)), (hp1, .inr (4, [.int p1_ram, .int p1_end, .ref hp1_original])), (hp1_original, .inl (E.1, 512, .inl p1_original))]) 0 0 := by
  refine MV_of (by decide) (Nat.le_of_ble_eq_true rfl) ?_
  intro p e s m args below meth c A Q hx hb hml hown hin hts hK hA hP hD hS ret ls hl
  replace ret : ∀ (R : ((Nat → Int32) × Int32 × Int32)), R = (o0, o1, o2) → ∀ (H : Heap) (locs : List Loc) (pc : Nat) (ls : Array Slot) (a : Nat → Nat), va_P G vwCl [(hp0, .inr (0, [.ref hp0_bytes, .int R.2.1, .int R.2.2])), (hp0_bytes, .inl (E.1, 1200, .inl R.1)), (hp1, .inr (4, [.int p1_ram, .int p1_end, .ref hp1_original])), (hp1_original, .inl (E.1, 512, .inl p1_original))] H → va_D A [(hp0, .inr (0, [.ref hp0_bytes, .int R.2.1, .int R.2.2])), (hp0_bytes, .inl (E.1, 1200, .inl R.1)), (hp1, .inr (4, [.int p1_ram, .int p1_end, .ref hp1_original])), (hp1_original, .inl (E.1, 512, .inl p1_original))] → va_S A s.heap H locs → decode cX6_writeHead pc = .ok (.return_, 1) → W p l e w_rm_X6_writeHead s m args below meth c H locs 0 0 Q (F0 m pc ls []) := by
    intro R hR
    subst hR
    exact ret
  replace hl : lv_has ls 4 [(0, .ref hp0), (1, .ref hp1)] := hl
  unfold f_X6_writeHead at h
  refine lv_aload_n hx hb dX6_writeHead_0 rfl (lv_at hl 0 rfl) ?_
  refine lv_ldc hx hb hown (hts _ wd_fb97a031) dX6_writeHead_1 ?_
  obtain ⟨u1, hu1, h⟩ := bd_t h
  refine cSi (wr := [(hp1, .inr (4, [.int p1_ram, .int p1_end, .ref hp1_original])), (hp1_original, .inl (E.1, 512, .inl p1_original))]) (As := [.ref hp0, .int (1229351012 : Int32)]) (rest := []) ⟨hx, hb, hml, hown, hts⟩ (c_X6_openChunk l G E N hp0 hp0_bytes p0_size p0_overflowed p0_bytes (1229351012 : Int32) u1.1 u1.2.1 u1.2.2.1 u1.2.2.2 hu1) ok_X6_openChunk oks_X6_openChunk wd_f5eaee75 ⟨Nat.le_of_ble_eq_true rfl, Nat.le_of_ble_eq_true rfl⟩ hK hP hD hS hA [0, 1] [2, 3] rfl rfl (by decide) (by decide) (by decide) rfl hl.1 rfl (Nat.le_of_ble_eq_true rfl) dX6_writeHead_3 ⟨Nat.le_of_ble_eq_true rfl, Nat.le_of_ble_eq_true rfl⟩ (fun H locs a2 hP hD hS => ?_)
  have hP : va_P G vwCl [(hp1, .inr (4, [.int p1_ram, .int p1_end, .ref hp1_original])), (hp1_original, .inl (E.1, 512, .inl p1_original)), (hp0, .inr (0, [.ref hp0_bytes, .int u1.2.2.1, .int u1.2.2.2])), (hp0_bytes, .inl (E.1, 1200, .inl u1.2.1))] H := hP
  have hD : va_D A [(hp1, .inr (4, [.int p1_ram, .int p1_end, .ref hp1_original])), (hp1_original, .inl (E.1, 512, .inl p1_original)), (hp0, .inr (0, [.ref hp0_bytes, .int u1.2.2.1, .int u1.2.2.2])), (hp0_bytes, .inl (E.1, 1200, .inl u1.2.1))] := hD
  refine lv_istore_n (lv' := [(2, .int u1.1), (0, .ref hp0), (1, .ref hp1)]) hx hb dX6_writeHead_6 rfl hl (by decide) rfl (fun ls hl => ?_)
  refine lv_iconst (v := 0) hx hb dX6_writeHead_7 (by decide) ?_
  refine lv_istore_n (lv' := [(3, .int (0 : Int32)), (2, .int u1.1), (0, .ref hp0), (1, .ref hp1)]) hx hb dX6_writeHead_8 rfl hl (by decide) rfl (fun ls hl => ?_)
  have hL9 : ∀ (K31 : (Nat → Int32) → Int32 → Int32 → Int32 → Option ((Nat → Int32) × Int32 × Int32)), (∀ (z3 : (Nat → Int32)) (z4 : Int32) (z5 : Int32) (z6 : Int32), K31 z3 z4 z5 z6 = some (o0, o1, o2) → ∀ (H : Heap) (locs : List Loc) (ls : Array Slot), va_P G vwCl [(hp1, .inr (4, [.int p1_ram, .int p1_end, .ref hp1_original])), (hp1_original, .inl (E.1, 512, .inl p1_original)), (hp0, .inr (0, [.ref hp0_bytes, .int z4, .int z5])), (hp0_bytes, .inl (E.1, 1200, .inl z3))] H → va_D A [(hp1, .inr (4, [.int p1_ram, .int p1_end, .ref hp1_original])), (hp1_original, .inl (E.1, 512, .inl p1_original)), (hp0, .inr (0, [.ref hp0_bytes, .int z4, .int z5])), (hp0_bytes, .inl (E.1, 1200, .inl z3))] → va_S A s.heap H locs → lv_has ls 4 [(0, .ref hp0), (2, .int u1.1)] → W p l e w_rm_X6_writeHead s m args below meth c H locs 0 0 Q (F0 m 31 ls [])) → ∀ (n : Nat) (z3 : (Nat → Int32)) (z4 : Int32) (z5 : Int32) (z6 : Int32), L_X6_writeHead_9 p1_original K31 n z3 z4 z5 z6 = some (o0, o1, o2) → ∀ (H : Heap) (locs : List Loc) (ls : Array Slot), va_P G vwCl [(hp1, .inr (4, [.int p1_ram, .int p1_end, .ref hp1_original])), (hp1_original, .inl (E.1, 512, .inl p1_original)), (hp0, .inr (0, [.ref hp0_bytes, .int z4, .int z5])), (hp0_bytes, .inl (E.1, 1200, .inl z3))] H → va_D A [(hp1, .inr (4, [.int p1_ram, .int p1_end, .ref hp1_original])), (hp1_original, .inl (E.1, 512, .inl p1_original)), (hp0, .inr (0, [.ref hp0_bytes, .int z4, .int z5])), (hp0_bytes, .inl (E.1, 1200, .inl z3))] → va_S A s.heap H locs → lv_has ls 4 [(0, .ref hp0), (1, .ref hp1), (2, .int u1.1), (3, .int z6)] → W p l e w_rm_X6_writeHead s m args below meth c H locs 0 0 Q (F0 m 9 ls []) := by
    intro K31 hK31 n
    induction n with
    | zero =>
      intro z3 z4 z5 z6 h
      replace h : (none : Option ((Nat → Int32) × Int32 × Int32)) = some (o0, o1, o2) := h
      cases h
    | succ n ih =>
      intro z3 z4 z5 z6 h H locs ls hP hD hS hl
      replace h : B_X6_writeHead_9 p1_original (fun z3 z4 z5 z6 => L_X6_writeHead_9 p1_original K31 n z3 z4 z5 z6) K31 z3 z4 z5 z6 = some (o0, o1, o2) := h
      obtain ⟨rec9, hrec9⟩ : ∃ f : (Nat → Int32) → Int32 → Int32 → Int32 → Option ((Nat → Int32) × Int32 × Int32), f = (fun z3 z4 z5 z6 => L_X6_writeHead_9 p1_original K31 n z3 z4 z5 z6) := ⟨_, rfl⟩
      rw [← hrec9] at h
      unfold B_X6_writeHead_9 at h
      refine lv_iload_n hx hb dX6_writeHead_9 rfl (lv_at hl 3 rfl) ?_
      refine lv_bipush (v := 16) hx hb dX6_writeHead_10 (by decide) ?_
      refine lv_icmp_ge (tgt := 31) hx hb dX6_writeHead_12 (by decide) (fun c7 => ?_) (fun c7 => ?_)
      · replace h := if_t h c7
        exact hK31 z3 z4 z5 z6 h _ _ _ hP hD hS (lv_sub hl [0, 2] rfl)
      · replace h := if_f h c7
        refine lv_aload_n hx hb dX6_writeHead_15 rfl (lv_at hl 0 rfl) ?_
        refine lv_aload_n hx hb dX6_writeHead_16 rfl (lv_at hl 1 rfl) ?_
        refine getF (D := G) (ci := 4) (v := .ref hp1_original) (C := RX4) (T := TX4) (N := 3) hx hb hts inG_X4 hown hK.1 hP 0 rfl rfl 2 (by decide) tf_X4_2 (hts _ wd_4689a26b) rfl dX6_writeHead_17 ?_
        refine lv_iload_n hx hb dX6_writeHead_20 rfl (lv_at hl 3 rfl) ?_
        obtain ⟨g8, h⟩ := gin_t h
        refine va_iald hx hb hK.1 hP 1 0 rfl rfl g8 dX6_writeHead_21 ?_
        obtain ⟨u9, hu9, h⟩ := bd_t h
        refine cVv (wr := [(hp1, .inr (4, [.int p1_ram, .int p1_end, .ref hp1_original])), (hp1_original, .inl (E.1, 512, .inl p1_original))]) (As := [.int (p1_original z6.toNatClampNeg)]) (rest := []) ⟨hx, hb, hml, hown, hts⟩ (c_X0_add l G E hp0 hp0_bytes z4 z5 z3 (p1_original z6.toNatClampNeg) u9.1 u9.2.1 u9.2.2 hu9) ok_X0_add okv_X0_add wd_1c73391c ⟨Nat.le_of_ble_eq_true rfl, Nat.le_of_ble_eq_true rfl⟩ hK hP hD hS hA [2, 3] [0, 1] rfl rfl (by decide) (by decide) (by decide) (va_recv hK.1 hP (ci := 0) (q0 := 2) rfl rfl) rfl hl.1 rfl (Nat.le_of_ble_eq_true rfl) dX6_writeHead_22 ⟨Nat.le_of_ble_eq_true rfl, Nat.le_of_ble_eq_true rfl⟩ (fun H locs a10 hP hD hS => ?_)
        have hP : va_P G vwCl [(hp1, .inr (4, [.int p1_ram, .int p1_end, .ref hp1_original])), (hp1_original, .inl (E.1, 512, .inl p1_original)), (hp0, .inr (0, [.ref hp0_bytes, .int u9.2.1, .int u9.2.2])), (hp0_bytes, .inl (E.1, 1200, .inl u9.1))] H := hP
        have hD : va_D A [(hp1, .inr (4, [.int p1_ram, .int p1_end, .ref hp1_original])), (hp1_original, .inl (E.1, 512, .inl p1_original)), (hp0, .inr (0, [.ref hp0_bytes, .int u9.2.1, .int u9.2.2])), (hp0_bytes, .inl (E.1, 1200, .inl u9.1))] := hD
        obtain ⟨x11, ex11⟩ : ∃ y : Int32, y = z6 + 1 := ⟨_, rfl⟩
        replace h := bn_t h ex11
        refine lv_iinc (v := x11) (lv' := [(3, .int x11), (0, .ref hp0), (1, .ref hp1), (2, .int u1.1)]) hx hb dX6_writeHead_25 hl (k := 3) rfl (by rw [ex11]; rfl) (by decide) rfl (fun ls hl => ?_)
        refine lv_goto (tgt := 9) hx hb dX6_writeHead_28 (by decide) ?_
        exact ih u9.1 u9.2.1 u9.2.2 x11 (by rw [hrec9] at h; exact h) _ _ _ hP hD hS (lv_sub hl [1, 2, 3, 0] rfl)
  refine hL9 _ (fun z3 z4 z5 z6 h H locs ls hP hD hS hl => ?_) N u1.2.1 u1.2.2.1 u1.2.2.2 (0 : Int32) h _ _ _ hP hD hS (lv_sub hl [2, 3, 1, 0] rfl)
  try dsimp only at h
  refine lv_aload_n hx hb dX6_writeHead_31 rfl (lv_at hl 0 rfl) ?_
  refine lv_iload_n hx hb dX6_writeHead_32 rfl (lv_at hl 1 rfl) ?_
  obtain ⟨u12, hu12, h⟩ := bd_t h
  refine cSv (wr := [(hp1, .inr (4, [.int p1_ram, .int p1_end, .ref hp1_original])), (hp1_original, .inl (E.1, 512, .inl p1_original))]) (As := [.ref hp0, .int u1.1]) (rest := []) ⟨hx, hb, hml, hown, hts⟩ (c_X6_closeChunk l G E N hp0 hp0_bytes z4 z5 z3 u1.1 u12.1 u12.2.1 u12.2.2 hu12) ok_X6_closeChunk oks_X6_closeChunk wd_c6ddec2c ⟨Nat.le_of_ble_eq_true rfl, Nat.le_of_ble_eq_true rfl⟩ hK hP hD hS hA [2, 3] [0, 1] rfl rfl (by decide) (by decide) (by decide) rfl hl.1 rfl (Nat.le_of_ble_eq_true rfl) dX6_writeHead_33 ⟨Nat.le_of_ble_eq_true rfl, Nat.le_of_ble_eq_true rfl⟩ (fun H locs a13 hP hD hS => ?_)
  have hP : va_P G vwCl [(hp1, .inr (4, [.int p1_ram, .int p1_end, .ref hp1_original])), (hp1_original, .inl (E.1, 512, .inl p1_original)), (hp0, .inr (0, [.ref hp0_bytes, .int u12.2.1, .int u12.2.2])), (hp0_bytes, .inl (E.1, 1200, .inl u12.1))] H := hP
  have hD : va_D A [(hp1, .inr (4, [.int p1_ram, .int p1_end, .ref hp1_original])), (hp1_original, .inl (E.1, 512, .inl p1_original)), (hp0, .inr (0, [.ref hp0_bytes, .int u12.2.1, .int u12.2.2])), (hp0_bytes, .inl (E.1, 1200, .inl u12.1))] := hD
  exact ret (u12.1, u12.2.1, u12.2.2) (Option.some.inj h) _ _ _ _ (fun _ => 0) (hP.sub [2, 3, 0, 1] rfl) (hD.sub [2, 3, 0, 1] (by decide) rfl) hS dX6_writeHead_36
def B_X6_writeZeros_2  (rec2 : (Nat → Int32) → Int32 → Int32 → Int32 → Option ((Nat → Int32) × Int32 × Int32)) (K33 : (Nat → Int32) → Int32 → Int32 → Int32 → Option ((Nat → Int32) × Int32 × Int32)) (z1 : (Nat → Int32)) (z2 : Int32) (z3 : Int32) (z4 : Int32) : Option ((Nat → Int32) × Int32 × Int32) :=
  if z4 ≤ 0 then (
  K33 z1 z2 z3 z4)
  else
  bd (f_X0_add (0 : Int32) z2 z3 z1) fun u6 =>
  bd (f_X0_add ((i_min z4 (256 : Int32)) - (1 : Int32)) u6.2.1 u6.2.2 u6.1) fun u8 =>
  bn (z4 + (-256)) fun x10 =>
  rec2 u8.1 u8.2.1 u8.2.2 x10
def L_X6_writeZeros_2  (K33 : (Nat → Int32) → Int32 → Int32 → Int32 → Option ((Nat → Int32) × Int32 × Int32)) : Nat → (Nat → Int32) → Int32 → Int32 → Int32 → Option ((Nat → Int32) × Int32 × Int32)
    | 0, _, _, _, _ => none
    | n + 1, z1, z2, z3, z4 => B_X6_writeZeros_2 (fun z1 z2 z3 z4 => L_X6_writeZeros_2 K33 n z1 z2 z3 z4) K33 z1 z2 z3 z4
def f_X6_writeZeros (N : Nat) (i1 : Int32) (p0_size : Int32) (p0_overflowed : Int32) (p0_bytes : (Nat → Int32)) : Option ((Nat → Int32) × Int32 × Int32) :=
  L_X6_writeZeros_2 
  (fun z1 z2 z3 z4 =>
  some (z1, z2, z3)) N p0_bytes p0_size p0_overflowed i1
abbrev w_rm_X6_writeZeros : Room := { frames := 2, cells := 0, slots := 0, locals := 43 }
set_option maxHeartbeats 4000000 in
set_option maxRecDepth 100000 in
theorem c_X6_writeZeros (l : Launch) (G : va_G) (E : ClassId × ClassId × ClassId) (N : Nat) (hp0 : Nat) (hp0_bytes : Nat) (p0_size : Int32) (p0_overflowed : Int32) (p0_bytes : (Nat → Int32)) (i1 : Int32) (o0 : (Nat → Int32)) (o1 : Int32) (o2 : Int32) (h : f_X6_writeZeros N i1 p0_size p0_overflowed p0_bytes = some (o0, o1, o2)) : MV l G E yX6_writeZeros cX6_writeZeros 3 w_rm_X6_writeZeros [.ref hp0, .int i1] [(hp0, .inr (0, [.ref hp0_bytes, .int p0_size, .int p0_overflowed])), (hp0_bytes, .inl (E.1, 1200, .inl p0_bytes))] (fun a => [(hp0, .inr (0, [.ref hp0_bytes, .int o1, .int o2])), (hp0_bytes, .inl (E.1, 1200, .inl o0))]) 0 0 := by
  refine MV_of (by decide) (Nat.le_of_ble_eq_true rfl) ?_
  intro p e s m args below meth c A Q hx hb hml hown hin hts hK hA hP hD hS ret ls hl
  replace ret : ∀ (R : ((Nat → Int32) × Int32 × Int32)), R = (o0, o1, o2) → ∀ (H : Heap) (locs : List Loc) (pc : Nat) (ls : Array Slot) (a : Nat → Nat), va_P G vwCl [(hp0, .inr (0, [.ref hp0_bytes, .int R.2.1, .int R.2.2])), (hp0_bytes, .inl (E.1, 1200, .inl R.1))] H → va_D A [(hp0, .inr (0, [.ref hp0_bytes, .int R.2.1, .int R.2.2])), (hp0_bytes, .inl (E.1, 1200, .inl R.1))] → va_S A s.heap H locs → decode cX6_writeZeros pc = .ok (.return_, 1) → W p l e w_rm_X6_writeZeros s m args below meth c H locs 0 0 Q (F0 m pc ls []) := by
    intro R hR
    subst hR
    exact ret
  replace hl : lv_has ls 3 [(0, .ref hp0), (1, .int i1)] := hl
  unfold f_X6_writeZeros at h
  refine lv_iload_n hx hb dX6_writeZeros_0 rfl (lv_at hl 1 rfl) ?_
  refine lv_istore_n (lv' := [(2, .int i1), (0, .ref hp0), (1, .int i1)]) hx hb dX6_writeZeros_1 rfl hl (by decide) rfl (fun ls hl => ?_)
  have hL2 : ∀ (K33 : (Nat → Int32) → Int32 → Int32 → Int32 → Option ((Nat → Int32) × Int32 × Int32)), (∀ (z1 : (Nat → Int32)) (z2 : Int32) (z3 : Int32) (z4 : Int32), K33 z1 z2 z3 z4 = some (o0, o1, o2) → ∀ (H : Heap) (locs : List Loc) (ls : Array Slot), va_P G vwCl [(hp0, .inr (0, [.ref hp0_bytes, .int z2, .int z3])), (hp0_bytes, .inl (E.1, 1200, .inl z1))] H → va_D A [(hp0, .inr (0, [.ref hp0_bytes, .int z2, .int z3])), (hp0_bytes, .inl (E.1, 1200, .inl z1))] → va_S A s.heap H locs → lv_has ls 3 [] → W p l e w_rm_X6_writeZeros s m args below meth c H locs 0 0 Q (F0 m 33 ls [])) → ∀ (n : Nat) (z1 : (Nat → Int32)) (z2 : Int32) (z3 : Int32) (z4 : Int32), L_X6_writeZeros_2 K33 n z1 z2 z3 z4 = some (o0, o1, o2) → ∀ (H : Heap) (locs : List Loc) (ls : Array Slot), va_P G vwCl [(hp0, .inr (0, [.ref hp0_bytes, .int z2, .int z3])), (hp0_bytes, .inl (E.1, 1200, .inl z1))] H → va_D A [(hp0, .inr (0, [.ref hp0_bytes, .int z2, .int z3])), (hp0_bytes, .inl (E.1, 1200, .inl z1))] → va_S A s.heap H locs → lv_has ls 3 [(0, .ref hp0), (2, .int z4)] → W p l e w_rm_X6_writeZeros s m args below meth c H locs 0 0 Q (F0 m 2 ls []) := by
    intro K33 hK33 n
    induction n with
    | zero =>
      intro z1 z2 z3 z4 h
      replace h : (none : Option ((Nat → Int32) × Int32 × Int32)) = some (o0, o1, o2) := h
      cases h
    | succ n ih =>
      intro z1 z2 z3 z4 h H locs ls hP hD hS hl
      replace h : B_X6_writeZeros_2 (fun z1 z2 z3 z4 => L_X6_writeZeros_2 K33 n z1 z2 z3 z4) K33 z1 z2 z3 z4 = some (o0, o1, o2) := h
      obtain ⟨rec2, hrec2⟩ : ∃ f : (Nat → Int32) → Int32 → Int32 → Int32 → Option ((Nat → Int32) × Int32 × Int32), f = (fun z1 z2 z3 z4 => L_X6_writeZeros_2 K33 n z1 z2 z3 z4) := ⟨_, rfl⟩
      rw [← hrec2] at h
      unfold B_X6_writeZeros_2 at h
      refine lv_iload_n hx hb dX6_writeZeros_2 rfl (lv_at hl 1 rfl) ?_
      refine lv_if_le (tgt := 33) hx hb dX6_writeZeros_3 (by decide) (fun c5 => ?_) (fun c5 => ?_)
      · replace h := if_t h c5
        exact hK33 z1 z2 z3 z4 h _ _ _ hP hD hS (lv_sub hl [] rfl)
      · replace h := if_f h c5
        refine lv_aload_n hx hb dX6_writeZeros_6 rfl (lv_at hl 0 rfl) ?_
        refine lv_iconst (v := 0) hx hb dX6_writeZeros_7 (by decide) ?_
        obtain ⟨u6, hu6, h⟩ := bd_t h
        refine cVv (wr := []) (As := [.int (0 : Int32)]) (rest := []) ⟨hx, hb, hml, hown, hts⟩ (c_X0_add l G E hp0 hp0_bytes z2 z3 z1 (0 : Int32) u6.1 u6.2.1 u6.2.2 hu6) ok_X0_add okv_X0_add wd_1c73391c ⟨Nat.le_of_ble_eq_true rfl, Nat.le_of_ble_eq_true rfl⟩ hK hP hD hS hA [0, 1] [] rfl rfl (by decide) (by decide) (by decide) (va_recv hK.1 hP (ci := 0) (q0 := 0) rfl rfl) rfl hl.1 rfl (Nat.le_of_ble_eq_true rfl) dX6_writeZeros_8 ⟨Nat.le_of_ble_eq_true rfl, Nat.le_of_ble_eq_true rfl⟩ (fun H locs a7 hP hD hS => ?_)
        have hP : va_P G vwCl [(hp0, .inr (0, [.ref hp0_bytes, .int u6.2.1, .int u6.2.2])), (hp0_bytes, .inl (E.1, 1200, .inl u6.1))] H := hP
        have hD : va_D A [(hp0, .inr (0, [.ref hp0_bytes, .int u6.2.1, .int u6.2.2])), (hp0_bytes, .inl (E.1, 1200, .inl u6.1))] := hD
        refine lv_aload_n hx hb dX6_writeZeros_11 rfl (lv_at hl 0 rfl) ?_
        refine lv_iload_n hx hb dX6_writeZeros_12 rfl (lv_at hl 1 rfl) ?_
        refine lv_sipush (v := 256) hx hb dX6_writeZeros_13 (by decide) ?_
        refine va_mmin hx hb (hml.trans hl.1.symm) hown (hts _ wd_00384e4b) (hts _ wd_dd3c6667) (hts _ wd_c6cef573) (hts _ wd_81dd359d) (Nat.le_of_ble_eq_true rfl) (Nat.le_of_ble_eq_true rfl) (Nat.le_of_ble_eq_true rfl) (Nat.le_of_ble_eq_true rfl) dX6_writeZeros_16 ?_
        refine W.eq (g2 := F0 m 19 ls [.int (i_min z4 (256 : Int32)), .ref hp0]) rfl ?_
        refine lv_iconst (v := 1) hx hb dX6_writeZeros_19 (by decide) ?_
        refine lv_isub hx hb dX6_writeZeros_20 ?_
        obtain ⟨u8, hu8, h⟩ := bd_t h
        refine cVv (wr := []) (As := [.int ((i_min z4 (256 : Int32)) - (1 : Int32))]) (rest := []) ⟨hx, hb, hml, hown, hts⟩ (c_X0_add l G E hp0 hp0_bytes u6.2.1 u6.2.2 u6.1 ((i_min z4 (256 : Int32)) - (1 : Int32)) u8.1 u8.2.1 u8.2.2 hu8) ok_X0_add okv_X0_add wd_1c73391c ⟨Nat.le_of_ble_eq_true rfl, Nat.le_of_ble_eq_true rfl⟩ hK hP hD hS hA [0, 1] [] rfl rfl (by decide) (by decide) (by decide) (va_recv hK.1 hP (ci := 0) (q0 := 0) rfl rfl) rfl hl.1 rfl (Nat.le_of_ble_eq_true rfl) dX6_writeZeros_21 ⟨Nat.le_of_ble_eq_true rfl, Nat.le_of_ble_eq_true rfl⟩ (fun H locs a9 hP hD hS => ?_)
        have hP : va_P G vwCl [(hp0, .inr (0, [.ref hp0_bytes, .int u8.2.1, .int u8.2.2])), (hp0_bytes, .inl (E.1, 1200, .inl u8.1))] H := hP
        have hD : va_D A [(hp0, .inr (0, [.ref hp0_bytes, .int u8.2.1, .int u8.2.2])), (hp0_bytes, .inl (E.1, 1200, .inl u8.1))] := hD
        obtain ⟨x10, ex10⟩ : ∃ y : Int32, y = z4 + (-256) := ⟨_, rfl⟩
        replace h := bn_t h ex10
        refine lv_iincW (v := x10) (lv' := [(2, .int x10), (0, .ref hp0)]) hx hb dX6_writeZeros_24 hl (k := 1) rfl (by rw [ex10]; rfl) (by decide) rfl (fun ls hl => ?_)
        refine lv_goto (tgt := 2) hx hb dX6_writeZeros_30 (by decide) ?_
        exact ih u8.1 u8.2.1 u8.2.2 x10 (by rw [hrec2] at h; exact h) _ _ _ hP hD hS (lv_sub hl [1, 0] rfl)
  refine hL2 _ (fun z1 z2 z3 z4 h H locs ls hP hD hS hl => ?_) N p0_bytes p0_size p0_overflowed i1 h _ _ _ hP hD hS (lv_sub hl [1, 0] rfl)
  try dsimp only at h
  exact ret (z1, z2, z3) (Option.some.inj h) _ _ _ _ (fun _ => 0) hP hD hS dX6_writeZeros_33
def J_X6_writeMemory_84 (z9 : Int32) (rec24 : (Nat → Int32) → Int32 → Int32 → Int32 → Int32 → Option ((Nat → Int32) × Int32 × Int32)) (y16 : (Nat → Int32)) (y17 : Int32) (y18 : Int32) (y19 : Int32) : Option ((Nat → Int32) × Int32 × Int32) :=
  bn (z9 + 1) fun x20 =>
  rec24 y16 y17 y18 y19 x20
def B_X6_writeMemory_24 (N : Nat) (p2_size : Int32) (p2_memory : (Nat → Int32)) (p1_original : (Nat → Int32)) (rec24 : (Nat → Int32) → Int32 → Int32 → Int32 → Int32 → Option ((Nat → Int32) × Int32 × Int32)) (K90 : (Nat → Int32) → Int32 → Int32 → Int32 → Int32 → Option ((Nat → Int32) × Int32 × Int32)) (z5 : (Nat → Int32)) (z6 : Int32) (z7 : Int32) (z8 : Int32) (z9 : Int32) : Option ((Nat → Int32) × Int32 × Int32) :=
  if p2_size ≤ z9 then (
  K90 z5 z6 z7 z8 z9)
  else
  if (512 : Int32) ≤ z9 then (
  K90 z5 z6 z7 z8 z9)
  else
  gin z9 512 <|
  gin z9 512 <|
  bn ((p2_memory z9.toNatClampNeg) ^^^ (p1_original z9.toNatClampNeg)) fun x14 =>
  if x14 = 0 then (
  bn (z8 + 1) fun x25 =>
  J_X6_writeMemory_84 z9 rec24 z5 z6 z7 x25)
  else
  bd (f_X6_writeZeros N z8 z6 z7 z5) fun u21 =>
  bd (f_X0_add x14 u21.2.1 u21.2.2 u21.1) fun u23 =>
  J_X6_writeMemory_84 z9 rec24 u23.1 u23.2.1 u23.2.2 (0 : Int32)
def L_X6_writeMemory_24 (N : Nat) (p2_size : Int32) (p2_memory : (Nat → Int32)) (p1_original : (Nat → Int32)) (K90 : (Nat → Int32) → Int32 → Int32 → Int32 → Int32 → Option ((Nat → Int32) × Int32 × Int32)) : Nat → (Nat → Int32) → Int32 → Int32 → Int32 → Int32 → Option ((Nat → Int32) × Int32 × Int32)
    | 0, _, _, _, _, _ => none
    | n + 1, z5, z6, z7, z8, z9 => B_X6_writeMemory_24 N p2_size p2_memory p1_original (fun z5 z6 z7 z8 z9 => L_X6_writeMemory_24 N p2_size p2_memory p1_original K90 n z5 z6 z7 z8 z9) K90 z5 z6 z7 z8 z9
def f_X6_writeMemory (N : Nat) (p0_size : Int32) (p0_overflowed : Int32) (p0_bytes : (Nat → Int32)) (p2_size : Int32) (p1_ram : Int32) (p2_memory : (Nat → Int32)) (p1_original : (Nat → Int32)) : Option ((Nat → Int32) × Int32 × Int32) :=
  bd (f_X6_openChunk N (1129145709 : Int32) p0_size p0_overflowed p0_bytes) fun u1 =>
  bd (f_X0_addFour N p2_size u1.2.2.1 u1.2.2.2 u1.2.1) fun u3 =>
  L_X6_writeMemory_24 N p2_size p2_memory p1_original 
  (fun z5 z6 z7 z8 z9 =>
  bd (f_X6_closeChunk N u1.1 z6 z7 z5) fun u26 =>
  some (u26.1, u26.2.1, u26.2.2)) N u3.1 u3.2.1 u3.2.2 (0 : Int32) p1_ram
abbrev w_rm_X6_writeMemory : Room := { frames := 4, cells := 0, slots := 0, locals := 87 }
set_option maxHeartbeats 4000000 in
set_option maxRecDepth 100000 in
theorem c_X6_writeMemory (l : Launch) (G : va_G) (E : ClassId × ClassId × ClassId) (N : Nat) (hp0 : Nat) (hp0_bytes : Nat) (p0_size : Int32) (p0_overflowed : Int32) (p0_bytes : (Nat → Int32)) (hp2 : Nat) (hp2_memory : Nat) (p2_size : Int32) (hp2_stack : Nat) (p2_depth : Int32) (hp2_starts : Nat) (hp2_lengths : Nat) (p2_blocks : Int32) (hp1 : Nat) (p1_ram : Int32) (p1_end : Int32) (hp1_original : Nat) (p2_memory : (Nat → Int32)) (p1_original : (Nat → Int32)) (o0 : (Nat → Int32)) (o1 : Int32) (o2 : Int32) (h : f_X6_writeMemory N p0_size p0_overflowed p0_bytes p2_size p1_ram p2_memory p1_original = some (o0, o1, o2)) : MV l G E yX6_writeMemory cX6_writeMemory 7 w_rm_X6_writeMemory [.ref hp0, .ref hp1, .ref hp2] [(hp0, .inr (0, [.ref hp0_bytes, .int p0_size, .int p0_overflowed])), (hp0_bytes, .inl (E.1, 1200, .inl p0_bytes)), (hp2, .inr (1, [.ref hp2_memory, .int p2_size, .ref hp2_stack, .int p2_depth, .ref hp2_starts, .ref hp2_lengths, .int p2_blocks])), (hp1, .inr (4, [.int p1_ram, .int p1_end, .ref hp1_original])), (hp2_memory, .inl (E.1, 512, .inl p2_memory)), (hp1_original, .inl (E.1, 512, .inl p1_original))] (fun a => [(hp0, .inr (0, [.ref hp0_bytes, .int o1, .int o2])), (hp0_bytes, .inl (E.1, 1200, .inl o0)), (hp2, .inr (1, [.ref hp2_memory, .int p2_size, .ref hp2_stack, .int p2_depth, .ref hp2_starts, .ref hp2_lengths, .int p2_blocks])), (hp1, .inr (4, [.int p1_ram, .int p1_end, .ref hp1_original])), (hp2_memory, .inl (E.1, 512, .inl p2_memory)), (hp1_original, .inl (E.1, 512, .inl p1_original))]) 0 0 := by
  refine MV_of (by decide) (Nat.le_of_ble_eq_true rfl) ?_
  intro p e s m args below meth c A Q hx hb hml hown hin hts hK hA hP hD hS ret ls hl
  replace ret : ∀ (R : ((Nat → Int32) × Int32 × Int32)), R = (o0, o1, o2) → ∀ (H : Heap) (locs : List Loc) (pc : Nat) (ls : Array Slot) (a : Nat → Nat), va_P G vwCl [(hp0, .inr (0, [.ref hp0_bytes, .int R.2.1, .int R.2.2])), (hp0_bytes, .inl (E.1, 1200, .inl R.1)), (hp2, .inr (1, [.ref hp2_memory, .int p2_size, .ref hp2_stack, .int p2_depth, .ref hp2_starts, .ref hp2_lengths, .int p2_blocks])), (hp1, .inr (4, [.int p1_ram, .int p1_end, .ref hp1_original])), (hp2_memory, .inl (E.1, 512, .inl p2_memory)), (hp1_original, .inl (E.1, 512, .inl p1_original))] H → va_D A [(hp0, .inr (0, [.ref hp0_bytes, .int R.2.1, .int R.2.2])), (hp0_bytes, .inl (E.1, 1200, .inl R.1)), (hp2, .inr (1, [.ref hp2_memory, .int p2_size, .ref hp2_stack, .int p2_depth, .ref hp2_starts, .ref hp2_lengths, .int p2_blocks])), (hp1, .inr (4, [.int p1_ram, .int p1_end, .ref hp1_original])), (hp2_memory, .inl (E.1, 512, .inl p2_memory)), (hp1_original, .inl (E.1, 512, .inl p1_original))] → va_S A s.heap H locs → decode cX6_writeMemory pc = .ok (.return_, 1) → W p l e w_rm_X6_writeMemory s m args below meth c H locs 0 0 Q (F0 m pc ls []) := by
    intro R hR
    subst hR
    exact ret
  replace hl : lv_has ls 7 [(0, .ref hp0), (1, .ref hp1), (2, .ref hp2)] := hl
  unfold f_X6_writeMemory at h
  refine lv_aload_n hx hb dX6_writeMemory_0 rfl (lv_at hl 0 rfl) ?_
  refine lv_ldc hx hb hown (hts _ wd_faffe8e4) dX6_writeMemory_1 ?_
  obtain ⟨u1, hu1, h⟩ := bd_t h
  refine cSi (wr := [(hp2, .inr (1, [.ref hp2_memory, .int p2_size, .ref hp2_stack, .int p2_depth, .ref hp2_starts, .ref hp2_lengths, .int p2_blocks])), (hp1, .inr (4, [.int p1_ram, .int p1_end, .ref hp1_original])), (hp2_memory, .inl (E.1, 512, .inl p2_memory)), (hp1_original, .inl (E.1, 512, .inl p1_original))]) (As := [.ref hp0, .int (1129145709 : Int32)]) (rest := []) ⟨hx, hb, hml, hown, hts⟩ (c_X6_openChunk l G E N hp0 hp0_bytes p0_size p0_overflowed p0_bytes (1129145709 : Int32) u1.1 u1.2.1 u1.2.2.1 u1.2.2.2 hu1) ok_X6_openChunk oks_X6_openChunk wd_f5eaee75 ⟨Nat.le_of_ble_eq_true rfl, Nat.le_of_ble_eq_true rfl⟩ hK hP hD hS hA [0, 1] [2, 3, 4, 5] rfl rfl (by decide) (by decide) (by decide) rfl hl.1 rfl (Nat.le_of_ble_eq_true rfl) dX6_writeMemory_3 ⟨Nat.le_of_ble_eq_true rfl, Nat.le_of_ble_eq_true rfl⟩ (fun H locs a2 hP hD hS => ?_)
  have hP : va_P G vwCl [(hp2, .inr (1, [.ref hp2_memory, .int p2_size, .ref hp2_stack, .int p2_depth, .ref hp2_starts, .ref hp2_lengths, .int p2_blocks])), (hp1, .inr (4, [.int p1_ram, .int p1_end, .ref hp1_original])), (hp2_memory, .inl (E.1, 512, .inl p2_memory)), (hp1_original, .inl (E.1, 512, .inl p1_original)), (hp0, .inr (0, [.ref hp0_bytes, .int u1.2.2.1, .int u1.2.2.2])), (hp0_bytes, .inl (E.1, 1200, .inl u1.2.1))] H := hP
  have hD : va_D A [(hp2, .inr (1, [.ref hp2_memory, .int p2_size, .ref hp2_stack, .int p2_depth, .ref hp2_starts, .ref hp2_lengths, .int p2_blocks])), (hp1, .inr (4, [.int p1_ram, .int p1_end, .ref hp1_original])), (hp2_memory, .inl (E.1, 512, .inl p2_memory)), (hp1_original, .inl (E.1, 512, .inl p1_original)), (hp0, .inr (0, [.ref hp0_bytes, .int u1.2.2.1, .int u1.2.2.2])), (hp0_bytes, .inl (E.1, 1200, .inl u1.2.1))] := hD
  refine lv_istore_n (lv' := [(3, .int u1.1), (0, .ref hp0), (1, .ref hp1), (2, .ref hp2)]) hx hb dX6_writeMemory_6 rfl hl (by decide) rfl (fun ls hl => ?_)
  refine lv_aload_n hx hb dX6_writeMemory_7 rfl (lv_at hl 1 rfl) ?_
  refine lv_aload_n hx hb dX6_writeMemory_8 rfl (lv_at hl 3 rfl) ?_
  refine getF (D := G) (ci := 1) (v := .int p2_size) (C := RX1) (T := TX1) (N := 7) hx hb hts inG_X1 hown hK.1 hP 0 rfl rfl 1 (by decide) tf_X1_1 (hts _ wd_ede63543) rfl dX6_writeMemory_9 ?_
  obtain ⟨u3, hu3, h⟩ := bd_t h
  refine cVv (wr := [(hp2, .inr (1, [.ref hp2_memory, .int p2_size, .ref hp2_stack, .int p2_depth, .ref hp2_starts, .ref hp2_lengths, .int p2_blocks])), (hp1, .inr (4, [.int p1_ram, .int p1_end, .ref hp1_original])), (hp2_memory, .inl (E.1, 512, .inl p2_memory)), (hp1_original, .inl (E.1, 512, .inl p1_original))]) (As := [.int p2_size]) (rest := []) ⟨hx, hb, hml, hown, hts⟩ (c_X0_addFour l G E N hp0 hp0_bytes u1.2.2.1 u1.2.2.2 u1.2.1 p2_size u3.1 u3.2.1 u3.2.2 hu3) ok_X0_addFour okv_X0_addFour wd_9d46658a ⟨Nat.le_of_ble_eq_true rfl, Nat.le_of_ble_eq_true rfl⟩ hK hP hD hS hA [4, 5] [0, 1, 2, 3] rfl rfl (by decide) (by decide) (by decide) (va_recv hK.1 hP (ci := 0) (q0 := 4) rfl rfl) rfl hl.1 rfl (Nat.le_of_ble_eq_true rfl) dX6_writeMemory_12 ⟨Nat.le_of_ble_eq_true rfl, Nat.le_of_ble_eq_true rfl⟩ (fun H locs a4 hP hD hS => ?_)
  have hP : va_P G vwCl [(hp2, .inr (1, [.ref hp2_memory, .int p2_size, .ref hp2_stack, .int p2_depth, .ref hp2_starts, .ref hp2_lengths, .int p2_blocks])), (hp1, .inr (4, [.int p1_ram, .int p1_end, .ref hp1_original])), (hp2_memory, .inl (E.1, 512, .inl p2_memory)), (hp1_original, .inl (E.1, 512, .inl p1_original)), (hp0, .inr (0, [.ref hp0_bytes, .int u3.2.1, .int u3.2.2])), (hp0_bytes, .inl (E.1, 1200, .inl u3.1))] H := hP
  have hD : va_D A [(hp2, .inr (1, [.ref hp2_memory, .int p2_size, .ref hp2_stack, .int p2_depth, .ref hp2_starts, .ref hp2_lengths, .int p2_blocks])), (hp1, .inr (4, [.int p1_ram, .int p1_end, .ref hp1_original])), (hp2_memory, .inl (E.1, 512, .inl p2_memory)), (hp1_original, .inl (E.1, 512, .inl p1_original)), (hp0, .inr (0, [.ref hp0_bytes, .int u3.2.1, .int u3.2.2])), (hp0_bytes, .inl (E.1, 1200, .inl u3.1))] := hD
  refine lv_iconst (v := 0) hx hb dX6_writeMemory_15 (by decide) ?_
  refine lv_istore (lv' := [(4, .int (0 : Int32)), (3, .int u1.1), (0, .ref hp0), (1, .ref hp1), (2, .ref hp2)]) hx hb dX6_writeMemory_16 hl (by decide) rfl (fun ls hl => ?_)
  refine lv_aload_n hx hb dX6_writeMemory_18 rfl (lv_at hl 3 rfl) ?_
  refine getF (D := G) (ci := 4) (v := .int p1_ram) (C := RX4) (T := TX4) (N := 3) hx hb hts inG_X4 hown hK.1 hP 1 rfl rfl 0 (by decide) tf_X4_0 (hts _ wd_fd363865) rfl dX6_writeMemory_19 ?_
  refine lv_istore (lv' := [(5, .int p1_ram), (4, .int (0 : Int32)), (3, .int u1.1), (0, .ref hp0), (1, .ref hp1), (2, .ref hp2)]) hx hb dX6_writeMemory_22 hl (by decide) rfl (fun ls hl => ?_)
  have hL24 : ∀ (K90 : (Nat → Int32) → Int32 → Int32 → Int32 → Int32 → Option ((Nat → Int32) × Int32 × Int32)), (∀ (z5 : (Nat → Int32)) (z6 : Int32) (z7 : Int32) (z8 : Int32) (z9 : Int32), K90 z5 z6 z7 z8 z9 = some (o0, o1, o2) → ∀ (H : Heap) (locs : List Loc) (ls : Array Slot), va_P G vwCl [(hp2, .inr (1, [.ref hp2_memory, .int p2_size, .ref hp2_stack, .int p2_depth, .ref hp2_starts, .ref hp2_lengths, .int p2_blocks])), (hp1, .inr (4, [.int p1_ram, .int p1_end, .ref hp1_original])), (hp2_memory, .inl (E.1, 512, .inl p2_memory)), (hp1_original, .inl (E.1, 512, .inl p1_original)), (hp0, .inr (0, [.ref hp0_bytes, .int z6, .int z7])), (hp0_bytes, .inl (E.1, 1200, .inl z5))] H → va_D A [(hp2, .inr (1, [.ref hp2_memory, .int p2_size, .ref hp2_stack, .int p2_depth, .ref hp2_starts, .ref hp2_lengths, .int p2_blocks])), (hp1, .inr (4, [.int p1_ram, .int p1_end, .ref hp1_original])), (hp2_memory, .inl (E.1, 512, .inl p2_memory)), (hp1_original, .inl (E.1, 512, .inl p1_original)), (hp0, .inr (0, [.ref hp0_bytes, .int z6, .int z7])), (hp0_bytes, .inl (E.1, 1200, .inl z5))] → va_S A s.heap H locs → lv_has ls 7 [(0, .ref hp0), (3, .int u1.1)] → W p l e w_rm_X6_writeMemory s m args below meth c H locs 0 0 Q (F0 m 90 ls [])) → ∀ (n : Nat) (z5 : (Nat → Int32)) (z6 : Int32) (z7 : Int32) (z8 : Int32) (z9 : Int32), L_X6_writeMemory_24 N p2_size p2_memory p1_original K90 n z5 z6 z7 z8 z9 = some (o0, o1, o2) → ∀ (H : Heap) (locs : List Loc) (ls : Array Slot), va_P G vwCl [(hp2, .inr (1, [.ref hp2_memory, .int p2_size, .ref hp2_stack, .int p2_depth, .ref hp2_starts, .ref hp2_lengths, .int p2_blocks])), (hp1, .inr (4, [.int p1_ram, .int p1_end, .ref hp1_original])), (hp2_memory, .inl (E.1, 512, .inl p2_memory)), (hp1_original, .inl (E.1, 512, .inl p1_original)), (hp0, .inr (0, [.ref hp0_bytes, .int z6, .int z7])), (hp0_bytes, .inl (E.1, 1200, .inl z5))] H → va_D A [(hp2, .inr (1, [.ref hp2_memory, .int p2_size, .ref hp2_stack, .int p2_depth, .ref hp2_starts, .ref hp2_lengths, .int p2_blocks])), (hp1, .inr (4, [.int p1_ram, .int p1_end, .ref hp1_original])), (hp2_memory, .inl (E.1, 512, .inl p2_memory)), (hp1_original, .inl (E.1, 512, .inl p1_original)), (hp0, .inr (0, [.ref hp0_bytes, .int z6, .int z7])), (hp0_bytes, .inl (E.1, 1200, .inl z5))] → va_S A s.heap H locs → lv_has ls 7 [(0, .ref hp0), (1, .ref hp1), (2, .ref hp2), (3, .int u1.1), (4, .int z8), (5, .int z9)] → W p l e w_rm_X6_writeMemory s m args below meth c H locs 0 0 Q (F0 m 24 ls []) := by
    intro K90 hK90 n
    induction n with
    | zero =>
      intro z5 z6 z7 z8 z9 h
      replace h : (none : Option ((Nat → Int32) × Int32 × Int32)) = some (o0, o1, o2) := h
      cases h
    | succ n ih =>
      intro z5 z6 z7 z8 z9 h H locs ls hP hD hS hl
      replace h : B_X6_writeMemory_24 N p2_size p2_memory p1_original (fun z5 z6 z7 z8 z9 => L_X6_writeMemory_24 N p2_size p2_memory p1_original K90 n z5 z6 z7 z8 z9) K90 z5 z6 z7 z8 z9 = some (o0, o1, o2) := h
      obtain ⟨rec24, hrec24⟩ : ∃ f : (Nat → Int32) → Int32 → Int32 → Int32 → Int32 → Option ((Nat → Int32) × Int32 × Int32), f = (fun z5 z6 z7 z8 z9 => L_X6_writeMemory_24 N p2_size p2_memory p1_original K90 n z5 z6 z7 z8 z9) := ⟨_, rfl⟩
      rw [← hrec24] at h
      unfold B_X6_writeMemory_24 at h
      refine lv_iload hx hb dX6_writeMemory_24 (lv_at hl 5 rfl) ?_
      refine lv_aload_n hx hb dX6_writeMemory_26 rfl (lv_at hl 2 rfl) ?_
      refine getF (D := G) (ci := 1) (v := .int p2_size) (C := RX1) (T := TX1) (N := 7) hx hb hts inG_X1 hown hK.1 hP 0 rfl rfl 1 (by decide) tf_X1_1 (hts _ wd_ede63543) rfl dX6_writeMemory_27 ?_
      refine lv_icmp_ge (tgt := 90) hx hb dX6_writeMemory_30 (by decide) (fun c10 => ?_) (fun c10 => ?_)
      · replace h := if_t h c10
        exact hK90 z5 z6 z7 z8 z9 h _ _ _ hP hD hS (lv_sub hl [0, 3] rfl)
      · replace h := if_f h c10
        refine lv_iload hx hb dX6_writeMemory_33 (lv_at hl 5 rfl) ?_
        refine lv_sipush (v := 512) hx hb dX6_writeMemory_35 (by decide) ?_
        refine lv_icmp_ge (tgt := 90) hx hb dX6_writeMemory_38 (by decide) (fun c11 => ?_) (fun c11 => ?_)
        · replace h := if_t h c11
          exact hK90 z5 z6 z7 z8 z9 h _ _ _ hP hD hS (lv_sub hl [0, 3] rfl)
        · replace h := if_f h c11
          refine lv_aload_n hx hb dX6_writeMemory_41 rfl (lv_at hl 2 rfl) ?_
          refine getF (D := G) (ci := 1) (v := .ref hp2_memory) (C := RX1) (T := TX1) (N := 7) hx hb hts inG_X1 hown hK.1 hP 0 rfl rfl 0 (by decide) tf_X1_0 (hts _ wd_8e49db6b) rfl dX6_writeMemory_42 ?_
          refine lv_iload hx hb dX6_writeMemory_45 (lv_at hl 5 rfl) ?_
          obtain ⟨g12, h⟩ := gin_t h
          refine va_iald hx hb hK.1 hP 2 0 rfl rfl g12 dX6_writeMemory_47 ?_
          refine lv_aload_n hx hb dX6_writeMemory_48 rfl (lv_at hl 1 rfl) ?_
          refine getF (D := G) (ci := 4) (v := .ref hp1_original) (C := RX4) (T := TX4) (N := 3) hx hb hts inG_X4 hown hK.1 hP 1 rfl rfl 2 (by decide) tf_X4_2 (hts _ wd_4689a26b) rfl dX6_writeMemory_49 ?_
          refine lv_iload hx hb dX6_writeMemory_52 (lv_at hl 5 rfl) ?_
          obtain ⟨g13, h⟩ := gin_t h
          refine va_iald hx hb hK.1 hP 3 0 rfl rfl g13 dX6_writeMemory_54 ?_
          refine lv_ixor hx hb dX6_writeMemory_55 ?_
          refine lv_topi (fun x14 ex14 => ?_)
          replace h := bn_t h ex14
          refine lv_istore (lv' := [(6, .int x14), (0, .ref hp0), (1, .ref hp1), (2, .ref hp2), (3, .int u1.1), (4, .int z8), (5, .int z9)]) hx hb dX6_writeMemory_56 hl (by decide) rfl (fun ls hl => ?_)
          refine lv_iload hx hb dX6_writeMemory_58 (lv_at hl 0 rfl) ?_
          have hJ84 : ∀ (y16 : (Nat → Int32)) (y17 : Int32) (y18 : Int32) (y19 : Int32), J_X6_writeMemory_84 z9 rec24 y16 y17 y18 y19 = some (o0, o1, o2) → ∀ (H : Heap) (locs : List Loc) (ls : Array Slot), va_P G vwCl [(hp2, .inr (1, [.ref hp2_memory, .int p2_size, .ref hp2_stack, .int p2_depth, .ref hp2_starts, .ref hp2_lengths, .int p2_blocks])), (hp1, .inr (4, [.int p1_ram, .int p1_end, .ref hp1_original])), (hp2_memory, .inl (E.1, 512, .inl p2_memory)), (hp1_original, .inl (E.1, 512, .inl p1_original)), (hp0, .inr (0, [.ref hp0_bytes, .int y17, .int y18])), (hp0_bytes, .inl (E.1, 1200, .inl y16))] H → va_D A [(hp2, .inr (1, [.ref hp2_memory, .int p2_size, .ref hp2_stack, .int p2_depth, .ref hp2_starts, .ref hp2_lengths, .int p2_blocks])), (hp1, .inr (4, [.int p1_ram, .int p1_end, .ref hp1_original])), (hp2_memory, .inl (E.1, 512, .inl p2_memory)), (hp1_original, .inl (E.1, 512, .inl p1_original)), (hp0, .inr (0, [.ref hp0_bytes, .int y17, .int y18])), (hp0_bytes, .inl (E.1, 1200, .inl y16))] → va_S A s.heap H locs → lv_has ls 7 [(0, .ref hp0), (1, .ref hp1), (2, .ref hp2), (3, .int u1.1), (4, .int y19), (5, .int z9)] → W p l e w_rm_X6_writeMemory s m args below meth c H locs 0 0 Q (F0 m 84 ls []) := by
            intro y16 y17 y18 y19 h H locs ls hP hD hS hl
            unfold J_X6_writeMemory_84 at h
            obtain ⟨x20, ex20⟩ : ∃ y : Int32, y = z9 + 1 := ⟨_, rfl⟩
            replace h := bn_t h ex20
            refine lv_iinc (v := x20) (lv' := [(5, .int x20), (0, .ref hp0), (1, .ref hp1), (2, .ref hp2), (3, .int u1.1), (4, .int y19)]) hx hb dX6_writeMemory_84 hl (k := 5) rfl (by rw [ex20]; rfl) (by decide) rfl (fun ls hl => ?_)
            refine lv_goto (tgt := 24) hx hb dX6_writeMemory_87 (by decide) ?_
            exact ih y16 y17 y18 y19 x20 (by rw [hrec24] at h; exact h) _ _ _ hP hD hS (lv_sub hl [1, 2, 3, 4, 5, 0] rfl)
          refine lv_if_ne (tgt := 69) hx hb dX6_writeMemory_60 (by decide) (fun c15 => ?_) (fun c15 => ?_)
          · replace h := if_f h c15
            refine lv_aload_n hx hb dX6_writeMemory_69 rfl (lv_at hl 1 rfl) ?_
            refine lv_iload hx hb dX6_writeMemory_70 (lv_at hl 5 rfl) ?_
            obtain ⟨u21, hu21, h⟩ := bd_t h
            refine cSv (wr := [(hp2, .inr (1, [.ref hp2_memory, .int p2_size, .ref hp2_stack, .int p2_depth, .ref hp2_starts, .ref hp2_lengths, .int p2_blocks])), (hp1, .inr (4, [.int p1_ram, .int p1_end, .ref hp1_original])), (hp2_memory, .inl (E.1, 512, .inl p2_memory)), (hp1_original, .inl (E.1, 512, .inl p1_original))]) (As := [.ref hp0, .int z8]) (rest := []) ⟨hx, hb, hml, hown, hts⟩ (c_X6_writeZeros l G E N hp0 hp0_bytes z6 z7 z5 z8 u21.1 u21.2.1 u21.2.2 hu21) ok_X6_writeZeros oks_X6_writeZeros wd_c84a734c ⟨Nat.le_of_ble_eq_true rfl, Nat.le_of_ble_eq_true rfl⟩ hK hP hD hS hA [4, 5] [0, 1, 2, 3] rfl rfl (by decide) (by decide) (by decide) rfl hl.1 rfl (Nat.le_of_ble_eq_true rfl) dX6_writeMemory_72 ⟨Nat.le_of_ble_eq_true rfl, Nat.le_of_ble_eq_true rfl⟩ (fun H locs a22 hP hD hS => ?_)
            have hP : va_P G vwCl [(hp2, .inr (1, [.ref hp2_memory, .int p2_size, .ref hp2_stack, .int p2_depth, .ref hp2_starts, .ref hp2_lengths, .int p2_blocks])), (hp1, .inr (4, [.int p1_ram, .int p1_end, .ref hp1_original])), (hp2_memory, .inl (E.1, 512, .inl p2_memory)), (hp1_original, .inl (E.1, 512, .inl p1_original)), (hp0, .inr (0, [.ref hp0_bytes, .int u21.2.1, .int u21.2.2])), (hp0_bytes, .inl (E.1, 1200, .inl u21.1))] H := hP
            have hD : va_D A [(hp2, .inr (1, [.ref hp2_memory, .int p2_size, .ref hp2_stack, .int p2_depth, .ref hp2_starts, .ref hp2_lengths, .int p2_blocks])), (hp1, .inr (4, [.int p1_ram, .int p1_end, .ref hp1_original])), (hp2_memory, .inl (E.1, 512, .inl p2_memory)), (hp1_original, .inl (E.1, 512, .inl p1_original)), (hp0, .inr (0, [.ref hp0_bytes, .int u21.2.1, .int u21.2.2])), (hp0_bytes, .inl (E.1, 1200, .inl u21.1))] := hD
            refine lv_aload_n hx hb dX6_writeMemory_75 rfl (lv_at hl 1 rfl) ?_
            refine lv_iload hx hb dX6_writeMemory_76 (lv_at hl 0 rfl) ?_
            obtain ⟨u23, hu23, h⟩ := bd_t h
            refine cVv (wr := [(hp2, .inr (1, [.ref hp2_memory, .int p2_size, .ref hp2_stack, .int p2_depth, .ref hp2_starts, .ref hp2_lengths, .int p2_blocks])), (hp1, .inr (4, [.int p1_ram, .int p1_end, .ref hp1_original])), (hp2_memory, .inl (E.1, 512, .inl p2_memory)), (hp1_original, .inl (E.1, 512, .inl p1_original))]) (As := [.int x14]) (rest := []) ⟨hx, hb, hml, hown, hts⟩ (c_X0_add l G E hp0 hp0_bytes u21.2.1 u21.2.2 u21.1 x14 u23.1 u23.2.1 u23.2.2 hu23) ok_X0_add okv_X0_add wd_1c73391c ⟨Nat.le_of_ble_eq_true rfl, Nat.le_of_ble_eq_true rfl⟩ hK hP hD hS hA [4, 5] [0, 1, 2, 3] rfl rfl (by decide) (by decide) (by decide) (va_recv hK.1 hP (ci := 0) (q0 := 4) rfl rfl) rfl hl.1 rfl (Nat.le_of_ble_eq_true rfl) dX6_writeMemory_78 ⟨Nat.le_of_ble_eq_true rfl, Nat.le_of_ble_eq_true rfl⟩ (fun H locs a24 hP hD hS => ?_)
            have hP : va_P G vwCl [(hp2, .inr (1, [.ref hp2_memory, .int p2_size, .ref hp2_stack, .int p2_depth, .ref hp2_starts, .ref hp2_lengths, .int p2_blocks])), (hp1, .inr (4, [.int p1_ram, .int p1_end, .ref hp1_original])), (hp2_memory, .inl (E.1, 512, .inl p2_memory)), (hp1_original, .inl (E.1, 512, .inl p1_original)), (hp0, .inr (0, [.ref hp0_bytes, .int u23.2.1, .int u23.2.2])), (hp0_bytes, .inl (E.1, 1200, .inl u23.1))] H := hP
            have hD : va_D A [(hp2, .inr (1, [.ref hp2_memory, .int p2_size, .ref hp2_stack, .int p2_depth, .ref hp2_starts, .ref hp2_lengths, .int p2_blocks])), (hp1, .inr (4, [.int p1_ram, .int p1_end, .ref hp1_original])), (hp2_memory, .inl (E.1, 512, .inl p2_memory)), (hp1_original, .inl (E.1, 512, .inl p1_original)), (hp0, .inr (0, [.ref hp0_bytes, .int u23.2.1, .int u23.2.2])), (hp0_bytes, .inl (E.1, 1200, .inl u23.1))] := hD
            refine lv_iconst (v := 0) hx hb dX6_writeMemory_81 (by decide) ?_
            refine lv_istore (lv' := [(4, .int (0 : Int32)), (6, .int x14), (0, .ref hp0), (1, .ref hp1), (2, .ref hp2), (3, .int u1.1), (5, .int z9)]) hx hb dX6_writeMemory_82 hl (by decide) rfl (fun ls hl => ?_)
            exact hJ84 u23.1 u23.2.1 u23.2.2 (0 : Int32) h _ _ _ hP hD hS (lv_sub hl [2, 3, 4, 5, 0, 6] rfl)
          · replace h := if_t h c15
            obtain ⟨x25, ex25⟩ : ∃ y : Int32, y = z8 + 1 := ⟨_, rfl⟩
            replace h := bn_t h ex25
            refine lv_iinc (v := x25) (lv' := [(4, .int x25), (6, .int x14), (0, .ref hp0), (1, .ref hp1), (2, .ref hp2), (3, .int u1.1), (5, .int z9)]) hx hb dX6_writeMemory_63 hl (k := 5) rfl (by rw [ex25]; rfl) (by decide) rfl (fun ls hl => ?_)
            refine lv_goto (tgt := 84) hx hb dX6_writeMemory_66 (by decide) ?_
            exact hJ84 z5 z6 z7 x25 h _ _ _ hP hD hS (lv_sub hl [2, 3, 4, 5, 0, 6] rfl)
  refine hL24 _ (fun z5 z6 z7 z8 z9 h H locs ls hP hD hS hl => ?_) N u3.1 u3.2.1 u3.2.2 (0 : Int32) p1_ram h _ _ _ hP hD hS (lv_sub hl [3, 4, 5, 2, 1, 0] rfl)
  try dsimp only at h
  refine lv_aload_n hx hb dX6_writeMemory_90 rfl (lv_at hl 0 rfl) ?_
  refine lv_iload_n hx hb dX6_writeMemory_91 rfl (lv_at hl 1 rfl) ?_
  obtain ⟨u26, hu26, h⟩ := bd_t h
  refine cSv (wr := [(hp2, .inr (1, [.ref hp2_memory, .int p2_size, .ref hp2_stack, .int p2_depth, .ref hp2_starts, .ref hp2_lengths, .int p2_blocks])), (hp1, .inr (4, [.int p1_ram, .int p1_end, .ref hp1_original])), (hp2_memory, .inl (E.1, 512, .inl p2_memory)), (hp1_original, .inl (E.1, 512, .inl p1_original))]) (As := [.ref hp0, .int u1.1]) (rest := []) ⟨hx, hb, hml, hown, hts⟩ (c_X6_closeChunk l G E N hp0 hp0_bytes z6 z7 z5 u1.1 u26.1 u26.2.1 u26.2.2 hu26) ok_X6_closeChunk oks_X6_closeChunk wd_c6ddec2c ⟨Nat.le_of_ble_eq_true rfl, Nat.le_of_ble_eq_true rfl⟩ hK hP hD hS hA [4, 5] [0, 1, 2, 3] rfl rfl (by decide) (by decide) (by decide) rfl hl.1 rfl (Nat.le_of_ble_eq_true rfl) dX6_writeMemory_92 ⟨Nat.le_of_ble_eq_true rfl, Nat.le_of_ble_eq_true rfl⟩ (fun H locs a27 hP hD hS => ?_)
  have hP : va_P G vwCl [(hp2, .inr (1, [.ref hp2_memory, .int p2_size, .ref hp2_stack, .int p2_depth, .ref hp2_starts, .ref hp2_lengths, .int p2_blocks])), (hp1, .inr (4, [.int p1_ram, .int p1_end, .ref hp1_original])), (hp2_memory, .inl (E.1, 512, .inl p2_memory)), (hp1_original, .inl (E.1, 512, .inl p1_original)), (hp0, .inr (0, [.ref hp0_bytes, .int u26.2.1, .int u26.2.2])), (hp0_bytes, .inl (E.1, 1200, .inl u26.1))] H := hP
  have hD : va_D A [(hp2, .inr (1, [.ref hp2_memory, .int p2_size, .ref hp2_stack, .int p2_depth, .ref hp2_starts, .ref hp2_lengths, .int p2_blocks])), (hp1, .inr (4, [.int p1_ram, .int p1_end, .ref hp1_original])), (hp2_memory, .inl (E.1, 512, .inl p2_memory)), (hp1_original, .inl (E.1, 512, .inl p1_original)), (hp0, .inr (0, [.ref hp0_bytes, .int u26.2.1, .int u26.2.2])), (hp0_bytes, .inl (E.1, 1200, .inl u26.1))] := hD
  exact ret (u26.1, u26.2.1, u26.2.2) (Option.some.inj h) _ _ _ _ (fun _ => 0) (hP.sub [4, 5, 0, 1, 2, 3] rfl) (hD.sub [4, 5, 0, 1, 2, 3] (by decide) rfl) hS dX6_writeMemory_95
def B_X6_writeStack_9 (N : Nat) (p1_depth : Int32) (p1_stack : (Nat → Int32)) (rec9 : (Nat → Int32) → Int32 → Int32 → Int32 → Option ((Nat → Int32) × Int32 × Int32)) (K33 : (Nat → Int32) → Int32 → Int32 → Int32 → Option ((Nat → Int32) × Int32 × Int32)) (z3 : (Nat → Int32)) (z4 : Int32) (z5 : Int32) (z6 : Int32) : Option ((Nat → Int32) × Int32 × Int32) :=
  if p1_depth ≤ z6 then (
  K33 z3 z4 z5 z6)
  else
  gin z6 40 <|
  bd (f_X0_addFour N (p1_stack z6.toNatClampNeg) z4 z5 z3) fun u9 =>
  bn (z6 + 1) fun x11 =>
  rec9 u9.1 u9.2.1 u9.2.2 x11
def L_X6_writeStack_9 (N : Nat) (p1_depth : Int32) (p1_stack : (Nat → Int32)) (K33 : (Nat → Int32) → Int32 → Int32 → Int32 → Option ((Nat → Int32) × Int32 × Int32)) : Nat → (Nat → Int32) → Int32 → Int32 → Int32 → Option ((Nat → Int32) × Int32 × Int32)
    | 0, _, _, _, _ => none
    | n + 1, z3, z4, z5, z6 => B_X6_writeStack_9 N p1_depth p1_stack (fun z3 z4 z5 z6 => L_X6_writeStack_9 N p1_depth p1_stack K33 n z3 z4 z5 z6) K33 z3 z4 z5 z6
def f_X6_writeStack (N : Nat) (p0_size : Int32) (p0_overflowed : Int32) (p0_bytes : (Nat → Int32)) (p1_depth : Int32) (p1_stack : (Nat → Int32)) : Option ((Nat → Int32) × Int32 × Int32) :=
  bd (f_X6_openChunk N (1400138611 : Int32) p0_size p0_overflowed p0_bytes) fun u1 =>
  L_X6_writeStack_9 N p1_depth p1_stack 
  (fun z3 z4 z5 z6 =>
  bd (f_X6_closeChunk N u1.1 z4 z5 z3) fun u12 =>
  some (u12.1, u12.2.1, u12.2.2)) N u1.2.1 u1.2.2.1 u1.2.2.2 (0 : Int32)
abbrev w_rm_X6_writeStack : Room := { frames := 4, cells := 0, slots := 0, locals := 87 }
set_option maxHeartbeats 4000000 in
set_option maxRecDepth 100000 in
theorem c_X6_writeStack (l : Launch) (G : va_G) (E : ClassId × ClassId × ClassId) (N : Nat) (hp0 : Nat) (hp0_bytes : Nat) (p0_size : Int32) (p0_overflowed : Int32) (p0_bytes : (Nat → Int32)) (hp1 : Nat) (hp1_memory : Nat) (p1_size : Int32) (hp1_stack : Nat) (p1_depth : Int32) (hp1_starts : Nat) (hp1_lengths : Nat) (p1_blocks : Int32) (p1_stack : (Nat → Int32)) (o0 : (Nat → Int32)) (o1 : Int32) (o2 : Int32) (h : f_X6_writeStack N p0_size p0_overflowed p0_bytes p1_depth p1_stack = some (o0, o1, o2)) : MV l G E yX6_writeStack cX6_writeStack 4 w_rm_X6_writeStack [.ref hp0, .ref hp1] [(hp0, .inr (0, [.ref hp0_bytes, .int p0_size, .int p0_overflowed])), (hp0_bytes, .inl (E.1, 1200, .inl p0_bytes)), (hp1, .inr (1, [.ref hp1_memory, .int p1_size, .ref hp1_stack, .int p1_depth, .ref hp1_starts, .ref hp1_lengths, .int p1_blocks])), (hp1_stack, .inl (E.1, 40, .inl p1_stack))] (fun a => [(hp0, .inr (0, [.ref hp0_bytes, .int o1, .int o2])), (hp0_bytes, .inl (E.1, 1200, .inl o0)), (hp1, .inr (1, [.ref hp1_memory, .int p1_size, .ref hp1_stack, .int p1_depth, .ref hp1_starts, .ref hp1_lengths, .int p1_blocks])), (hp1_stack, .inl (E.1, 40, .inl p1_stack))]) 0 0 := by
  refine MV_of (by decide) (Nat.le_of_ble_eq_true rfl) ?_
  intro p e s m args below meth c A Q hx hb hml hown hin hts hK hA hP hD hS ret ls hl
  replace ret : ∀ (R : ((Nat → Int32) × Int32 × Int32)), R = (o0, o1, o2) → ∀ (H : Heap) (locs : List Loc) (pc : Nat) (ls : Array Slot) (a : Nat → Nat), va_P G vwCl [(hp0, .inr (0, [.ref hp0_bytes, .int R.2.1, .int R.2.2])), (hp0_bytes, .inl (E.1, 1200, .inl R.1)), (hp1, .inr (1, [.ref hp1_memory, .int p1_size, .ref hp1_stack, .int p1_depth, .ref hp1_starts, .ref hp1_lengths, .int p1_blocks])), (hp1_stack, .inl (E.1, 40, .inl p1_stack))] H → va_D A [(hp0, .inr (0, [.ref hp0_bytes, .int R.2.1, .int R.2.2])), (hp0_bytes, .inl (E.1, 1200, .inl R.1)), (hp1, .inr (1, [.ref hp1_memory, .int p1_size, .ref hp1_stack, .int p1_depth, .ref hp1_starts, .ref hp1_lengths, .int p1_blocks])), (hp1_stack, .inl (E.1, 40, .inl p1_stack))] → va_S A s.heap H locs → decode cX6_writeStack pc = .ok (.return_, 1) → W p l e w_rm_X6_writeStack s m args below meth c H locs 0 0 Q (F0 m pc ls []) := by
    intro R hR
    subst hR
    exact ret
  replace hl : lv_has ls 4 [(0, .ref hp0), (1, .ref hp1)] := hl
  unfold f_X6_writeStack at h
  refine lv_aload_n hx hb dX6_writeStack_0 rfl (lv_at hl 0 rfl) ?_
  refine lv_ldc hx hb hown (hts _ wd_4cb9237d) dX6_writeStack_1 ?_
  obtain ⟨u1, hu1, h⟩ := bd_t h
  refine cSi (wr := [(hp1, .inr (1, [.ref hp1_memory, .int p1_size, .ref hp1_stack, .int p1_depth, .ref hp1_starts, .ref hp1_lengths, .int p1_blocks])), (hp1_stack, .inl (E.1, 40, .inl p1_stack))]) (As := [.ref hp0, .int (1400138611 : Int32)]) (rest := []) ⟨hx, hb, hml, hown, hts⟩ (c_X6_openChunk l G E N hp0 hp0_bytes p0_size p0_overflowed p0_bytes (1400138611 : Int32) u1.1 u1.2.1 u1.2.2.1 u1.2.2.2 hu1) ok_X6_openChunk oks_X6_openChunk wd_f5eaee75 ⟨Nat.le_of_ble_eq_true rfl, Nat.le_of_ble_eq_true rfl⟩ hK hP hD hS hA [0, 1] [2, 3] rfl rfl (by decide) (by decide) (by decide) rfl hl.1 rfl (Nat.le_of_ble_eq_true rfl) dX6_writeStack_3 ⟨Nat.le_of_ble_eq_true rfl, Nat.le_of_ble_eq_true rfl⟩ (fun H locs a2 hP hD hS => ?_)
  have hP : va_P G vwCl [(hp1, .inr (1, [.ref hp1_memory, .int p1_size, .ref hp1_stack, .int p1_depth, .ref hp1_starts, .ref hp1_lengths, .int p1_blocks])), (hp1_stack, .inl (E.1, 40, .inl p1_stack)), (hp0, .inr (0, [.ref hp0_bytes, .int u1.2.2.1, .int u1.2.2.2])), (hp0_bytes, .inl (E.1, 1200, .inl u1.2.1))] H := hP
  have hD : va_D A [(hp1, .inr (1, [.ref hp1_memory, .int p1_size, .ref hp1_stack, .int p1_depth, .ref hp1_starts, .ref hp1_lengths, .int p1_blocks])), (hp1_stack, .inl (E.1, 40, .inl p1_stack)), (hp0, .inr (0, [.ref hp0_bytes, .int u1.2.2.1, .int u1.2.2.2])), (hp0_bytes, .inl (E.1, 1200, .inl u1.2.1))] := hD
  refine lv_istore_n (lv' := [(2, .int u1.1), (0, .ref hp0), (1, .ref hp1)]) hx hb dX6_writeStack_6 rfl hl (by decide) rfl (fun ls hl => ?_)
  refine lv_iconst (v := 0) hx hb dX6_writeStack_7 (by decide) ?_
  refine lv_istore_n (lv' := [(3, .int (0 : Int32)), (2, .int u1.1), (0, .ref hp0), (1, .ref hp1)]) hx hb dX6_writeStack_8 rfl hl (by decide) rfl (fun ls hl => ?_)
  have hL9 : ∀ (K33 : (Nat → Int32) → Int32 → Int32 → Int32 → Option ((Nat → Int32) × Int32 × Int32)), (∀ (z3 : (Nat → Int32)) (z4 : Int32) (z5 : Int32) (z6 : Int32), K33 z3 z4 z5 z6 = some (o0, o1, o2) → ∀ (H : Heap) (locs : List Loc) (ls : Array Slot), va_P G vwCl [(hp1, .inr (1, [.ref hp1_memory, .int p1_size, .ref hp1_stack, .int p1_depth, .ref hp1_starts, .ref hp1_lengths, .int p1_blocks])), (hp1_stack, .inl (E.1, 40, .inl p1_stack)), (hp0, .inr (0, [.ref hp0_bytes, .int z4, .int z5])), (hp0_bytes, .inl (E.1, 1200, .inl z3))] H → va_D A [(hp1, .inr (1, [.ref hp1_memory, .int p1_size, .ref hp1_stack, .int p1_depth, .ref hp1_starts, .ref hp1_lengths, .int p1_blocks])), (hp1_stack, .inl (E.1, 40, .inl p1_stack)), (hp0, .inr (0, [.ref hp0_bytes, .int z4, .int z5])), (hp0_bytes, .inl (E.1, 1200, .inl z3))] → va_S A s.heap H locs → lv_has ls 4 [(0, .ref hp0), (2, .int u1.1)] → W p l e w_rm_X6_writeStack s m args below meth c H locs 0 0 Q (F0 m 33 ls [])) → ∀ (n : Nat) (z3 : (Nat → Int32)) (z4 : Int32) (z5 : Int32) (z6 : Int32), L_X6_writeStack_9 N p1_depth p1_stack K33 n z3 z4 z5 z6 = some (o0, o1, o2) → ∀ (H : Heap) (locs : List Loc) (ls : Array Slot), va_P G vwCl [(hp1, .inr (1, [.ref hp1_memory, .int p1_size, .ref hp1_stack, .int p1_depth, .ref hp1_starts, .ref hp1_lengths, .int p1_blocks])), (hp1_stack, .inl (E.1, 40, .inl p1_stack)), (hp0, .inr (0, [.ref hp0_bytes, .int z4, .int z5])), (hp0_bytes, .inl (E.1, 1200, .inl z3))] H → va_D A [(hp1, .inr (1, [.ref hp1_memory, .int p1_size, .ref hp1_stack, .int p1_depth, .ref hp1_starts, .ref hp1_lengths, .int p1_blocks])), (hp1_stack, .inl (E.1, 40, .inl p1_stack)), (hp0, .inr (0, [.ref hp0_bytes, .int z4, .int z5])), (hp0_bytes, .inl (E.1, 1200, .inl z3))] → va_S A s.heap H locs → lv_has ls 4 [(0, .ref hp0), (1, .ref hp1), (2, .int u1.1), (3, .int z6)] → W p l e w_rm_X6_writeStack s m args below meth c H locs 0 0 Q (F0 m 9 ls []) := by
    intro K33 hK33 n
    induction n with
    | zero =>
      intro z3 z4 z5 z6 h
      replace h : (none : Option ((Nat → Int32) × Int32 × Int32)) = some (o0, o1, o2) := h
      cases h
    | succ n ih =>
      intro z3 z4 z5 z6 h H locs ls hP hD hS hl
      replace h : B_X6_writeStack_9 N p1_depth p1_stack (fun z3 z4 z5 z6 => L_X6_writeStack_9 N p1_depth p1_stack K33 n z3 z4 z5 z6) K33 z3 z4 z5 z6 = some (o0, o1, o2) := h
      obtain ⟨rec9, hrec9⟩ : ∃ f : (Nat → Int32) → Int32 → Int32 → Int32 → Option ((Nat → Int32) × Int32 × Int32), f = (fun z3 z4 z5 z6 => L_X6_writeStack_9 N p1_depth p1_stack K33 n z3 z4 z5 z6) := ⟨_, rfl⟩
      rw [← hrec9] at h
      unfold B_X6_writeStack_9 at h
      refine lv_iload_n hx hb dX6_writeStack_9 rfl (lv_at hl 3 rfl) ?_
      refine lv_aload_n hx hb dX6_writeStack_10 rfl (lv_at hl 1 rfl) ?_
      refine getF (D := G) (ci := 1) (v := .int p1_depth) (C := RX1) (T := TX1) (N := 7) hx hb hts inG_X1 hown hK.1 hP 0 rfl rfl 3 (by decide) tf_X1_3 (hts _ wd_0ee1a0b5) rfl dX6_writeStack_11 ?_
      refine lv_icmp_ge (tgt := 33) hx hb dX6_writeStack_14 (by decide) (fun c7 => ?_) (fun c7 => ?_)
      · replace h := if_t h c7
        exact hK33 z3 z4 z5 z6 h _ _ _ hP hD hS (lv_sub hl [0, 2] rfl)
      · replace h := if_f h c7
        refine lv_aload_n hx hb dX6_writeStack_17 rfl (lv_at hl 0 rfl) ?_
        refine lv_aload_n hx hb dX6_writeStack_18 rfl (lv_at hl 1 rfl) ?_
        refine getF (D := G) (ci := 1) (v := .ref hp1_stack) (C := RX1) (T := TX1) (N := 7) hx hb hts inG_X1 hown hK.1 hP 0 rfl rfl 2 (by decide) tf_X1_2 (hts _ wd_7f910417) rfl dX6_writeStack_19 ?_
        refine lv_iload_n hx hb dX6_writeStack_22 rfl (lv_at hl 3 rfl) ?_
        obtain ⟨g8, h⟩ := gin_t h
        refine va_iald hx hb hK.1 hP 1 0 rfl rfl g8 dX6_writeStack_23 ?_
        obtain ⟨u9, hu9, h⟩ := bd_t h
        refine cVv (wr := [(hp1, .inr (1, [.ref hp1_memory, .int p1_size, .ref hp1_stack, .int p1_depth, .ref hp1_starts, .ref hp1_lengths, .int p1_blocks])), (hp1_stack, .inl (E.1, 40, .inl p1_stack))]) (As := [.int (p1_stack z6.toNatClampNeg)]) (rest := []) ⟨hx, hb, hml, hown, hts⟩ (c_X0_addFour l G E N hp0 hp0_bytes z4 z5 z3 (p1_stack z6.toNatClampNeg) u9.1 u9.2.1 u9.2.2 hu9) ok_X0_addFour okv_X0_addFour wd_9d46658a ⟨Nat.le_of_ble_eq_true rfl, Nat.le_of_ble_eq_true rfl⟩ hK hP hD hS hA [2, 3] [0, 1] rfl rfl (by decide) (by decide) (by decide) (va_recv hK.1 hP (ci := 0) (q0 := 2) rfl rfl) rfl hl.1 rfl (Nat.le_of_ble_eq_true rfl) dX6_writeStack_24 ⟨Nat.le_of_ble_eq_true rfl, Nat.le_of_ble_eq_true rfl⟩ (fun H locs a10 hP hD hS => ?_)
        have hP : va_P G vwCl [(hp1, .inr (1, [.ref hp1_memory, .int p1_size, .ref hp1_stack, .int p1_depth, .ref hp1_starts, .ref hp1_lengths, .int p1_blocks])), (hp1_stack, .inl (E.1, 40, .inl p1_stack)), (hp0, .inr (0, [.ref hp0_bytes, .int u9.2.1, .int u9.2.2])), (hp0_bytes, .inl (E.1, 1200, .inl u9.1))] H := hP
        have hD : va_D A [(hp1, .inr (1, [.ref hp1_memory, .int p1_size, .ref hp1_stack, .int p1_depth, .ref hp1_starts, .ref hp1_lengths, .int p1_blocks])), (hp1_stack, .inl (E.1, 40, .inl p1_stack)), (hp0, .inr (0, [.ref hp0_bytes, .int u9.2.1, .int u9.2.2])), (hp0_bytes, .inl (E.1, 1200, .inl u9.1))] := hD
        obtain ⟨x11, ex11⟩ : ∃ y : Int32, y = z6 + 1 := ⟨_, rfl⟩
        replace h := bn_t h ex11
        refine lv_iinc (v := x11) (lv' := [(3, .int x11), (0, .ref hp0), (1, .ref hp1), (2, .int u1.1)]) hx hb dX6_writeStack_27 hl (k := 3) rfl (by rw [ex11]; rfl) (by decide) rfl (fun ls hl => ?_)
        refine lv_goto (tgt := 9) hx hb dX6_writeStack_30 (by decide) ?_
        exact ih u9.1 u9.2.1 u9.2.2 x11 (by rw [hrec9] at h; exact h) _ _ _ hP hD hS (lv_sub hl [1, 2, 3, 0] rfl)
  refine hL9 _ (fun z3 z4 z5 z6 h H locs ls hP hD hS hl => ?_) N u1.2.1 u1.2.2.1 u1.2.2.2 (0 : Int32) h _ _ _ hP hD hS (lv_sub hl [2, 3, 1, 0] rfl)
  try dsimp only at h
  refine lv_aload_n hx hb dX6_writeStack_33 rfl (lv_at hl 0 rfl) ?_
  refine lv_iload_n hx hb dX6_writeStack_34 rfl (lv_at hl 1 rfl) ?_
  obtain ⟨u12, hu12, h⟩ := bd_t h
  refine cSv (wr := [(hp1, .inr (1, [.ref hp1_memory, .int p1_size, .ref hp1_stack, .int p1_depth, .ref hp1_starts, .ref hp1_lengths, .int p1_blocks])), (hp1_stack, .inl (E.1, 40, .inl p1_stack))]) (As := [.ref hp0, .int u1.1]) (rest := []) ⟨hx, hb, hml, hown, hts⟩ (c_X6_closeChunk l G E N hp0 hp0_bytes z4 z5 z3 u1.1 u12.1 u12.2.1 u12.2.2 hu12) ok_X6_closeChunk oks_X6_closeChunk wd_c6ddec2c ⟨Nat.le_of_ble_eq_true rfl, Nat.le_of_ble_eq_true rfl⟩ hK hP hD hS hA [2, 3] [0, 1] rfl rfl (by decide) (by decide) (by decide) rfl hl.1 rfl (Nat.le_of_ble_eq_true rfl) dX6_writeStack_35 ⟨Nat.le_of_ble_eq_true rfl, Nat.le_of_ble_eq_true rfl⟩ (fun H locs a13 hP hD hS => ?_)
  have hP : va_P G vwCl [(hp1, .inr (1, [.ref hp1_memory, .int p1_size, .ref hp1_stack, .int p1_depth, .ref hp1_starts, .ref hp1_lengths, .int p1_blocks])), (hp1_stack, .inl (E.1, 40, .inl p1_stack)), (hp0, .inr (0, [.ref hp0_bytes, .int u12.2.1, .int u12.2.2])), (hp0_bytes, .inl (E.1, 1200, .inl u12.1))] H := hP
  have hD : va_D A [(hp1, .inr (1, [.ref hp1_memory, .int p1_size, .ref hp1_stack, .int p1_depth, .ref hp1_starts, .ref hp1_lengths, .int p1_blocks])), (hp1_stack, .inl (E.1, 40, .inl p1_stack)), (hp0, .inr (0, [.ref hp0_bytes, .int u12.2.1, .int u12.2.2])), (hp0_bytes, .inl (E.1, 1200, .inl u12.1))] := hD
  exact ret (u12.1, u12.2.1, u12.2.2) (Option.some.inj h) _ _ _ _ (fun _ => 0) (hP.sub [2, 3, 0, 1] rfl) (hD.sub [2, 3, 0, 1] (by decide) rfl) hS dX6_writeStack_38
def B_X6_writeBlocks_17 (N : Nat) (p1_blocks : Int32) (p1_starts : (Nat → Int32)) (p1_lengths : (Nat → Int32)) (rec17 : (Nat → Int32) → Int32 → Int32 → Int32 → Option ((Nat → Int32) × Int32 × Int32)) (K51 : (Nat → Int32) → Int32 → Int32 → Int32 → Option ((Nat → Int32) × Int32 × Int32)) (z5 : (Nat → Int32)) (z6 : Int32) (z7 : Int32) (z8 : Int32) : Option ((Nat → Int32) × Int32 × Int32) :=
  if p1_blocks ≤ z8 then (
  K51 z5 z6 z7 z8)
  else
  gin z8 8 <|
  bd (f_X0_addFour N (p1_starts z8.toNatClampNeg) z6 z7 z5) fun u11 =>
  gin z8 8 <|
  bd (f_X0_addFour N (p1_lengths z8.toNatClampNeg) u11.2.1 u11.2.2 u11.1) fun u14 =>
  bn (z8 + 1) fun x16 =>
  rec17 u14.1 u14.2.1 u14.2.2 x16
def L_X6_writeBlocks_17 (N : Nat) (p1_blocks : Int32) (p1_starts : (Nat → Int32)) (p1_lengths : (Nat → Int32)) (K51 : (Nat → Int32) → Int32 → Int32 → Int32 → Option ((Nat → Int32) × Int32 × Int32)) : Nat → (Nat → Int32) → Int32 → Int32 → Int32 → Option ((Nat → Int32) × Int32 × Int32)
    | 0, _, _, _, _ => none
    | n + 1, z5, z6, z7, z8 => B_X6_writeBlocks_17 N p1_blocks p1_starts p1_lengths (fun z5 z6 z7 z8 => L_X6_writeBlocks_17 N p1_blocks p1_starts p1_lengths K51 n z5 z6 z7 z8) K51 z5 z6 z7 z8
def f_X6_writeBlocks (N : Nat) (p0_size : Int32) (p0_overflowed : Int32) (p0_bytes : (Nat → Int32)) (p1_blocks : Int32) (p1_starts : (Nat → Int32)) (p1_lengths : (Nat → Int32)) : Option ((Nat → Int32) × Int32 × Int32) :=
  bd (f_X6_openChunk N (1296133228 : Int32) p0_size p0_overflowed p0_bytes) fun u1 =>
  bd (f_X0_addFour N p1_blocks u1.2.2.1 u1.2.2.2 u1.2.1) fun u3 =>
  L_X6_writeBlocks_17 N p1_blocks p1_starts p1_lengths 
  (fun z5 z6 z7 z8 =>
  bd (f_X6_closeChunk N u1.1 z6 z7 z5) fun u17 =>
  some (u17.1, u17.2.1, u17.2.2)) N u3.1 u3.2.1 u3.2.2 (0 : Int32)
abbrev w_rm_X6_writeBlocks : Room := { frames := 4, cells := 0, slots := 0, locals := 87 }
set_option maxHeartbeats 4000000 in
set_option maxRecDepth 100000 in
theorem c_X6_writeBlocks (l : Launch) (G : va_G) (E : ClassId × ClassId × ClassId) (N : Nat) (hp0 : Nat) (hp0_bytes : Nat) (p0_size : Int32) (p0_overflowed : Int32) (p0_bytes : (Nat → Int32)) (hp1 : Nat) (hp1_memory : Nat) (p1_size : Int32) (hp1_stack : Nat) (p1_depth : Int32) (hp1_starts : Nat) (hp1_lengths : Nat) (p1_blocks : Int32) (p1_starts : (Nat → Int32)) (p1_lengths : (Nat → Int32)) (o0 : (Nat → Int32)) (o1 : Int32) (o2 : Int32) (h : f_X6_writeBlocks N p0_size p0_overflowed p0_bytes p1_blocks p1_starts p1_lengths = some (o0, o1, o2)) : MV l G E yX6_writeBlocks cX6_writeBlocks 4 w_rm_X6_writeBlocks [.ref hp0, .ref hp1] [(hp0, .inr (0, [.ref hp0_bytes, .int p0_size, .int p0_overflowed])), (hp0_bytes, .inl (E.1, 1200, .inl p0_bytes)), (hp1, .inr (1, [.ref hp1_memory, .int p1_size, .ref hp1_stack, .int p1_depth, .ref hp1_starts, .ref hp1_lengths, .int p1_blocks])), (hp1_starts, .inl (E.1, 8, .inl p1_starts)), (hp1_lengths, .inl (E.1, 8, .inl p1_lengths))] (fun a => [(hp0, .inr (0, [.ref hp0_bytes, .int o1, .int o2])), (hp0_bytes, .inl (E.1, 1200, .inl o0)), (hp1, .inr (1, [.ref hp1_memory, .int p1_size, .ref hp1_stack, .int p1_depth, .ref hp1_starts, .ref hp1_lengths, .int p1_blocks])), (hp1_starts, .inl (E.1, 8, .inl p1_starts)), (hp1_lengths, .inl (E.1, 8, .inl p1_lengths))]) 0 0 := by
  refine MV_of (by decide) (Nat.le_of_ble_eq_true rfl) ?_
  intro p e s m args below meth c A Q hx hb hml hown hin hts hK hA hP hD hS ret ls hl
  replace ret : ∀ (R : ((Nat → Int32) × Int32 × Int32)), R = (o0, o1, o2) → ∀ (H : Heap) (locs : List Loc) (pc : Nat) (ls : Array Slot) (a : Nat → Nat), va_P G vwCl [(hp0, .inr (0, [.ref hp0_bytes, .int R.2.1, .int R.2.2])), (hp0_bytes, .inl (E.1, 1200, .inl R.1)), (hp1, .inr (1, [.ref hp1_memory, .int p1_size, .ref hp1_stack, .int p1_depth, .ref hp1_starts, .ref hp1_lengths, .int p1_blocks])), (hp1_starts, .inl (E.1, 8, .inl p1_starts)), (hp1_lengths, .inl (E.1, 8, .inl p1_lengths))] H → va_D A [(hp0, .inr (0, [.ref hp0_bytes, .int R.2.1, .int R.2.2])), (hp0_bytes, .inl (E.1, 1200, .inl R.1)), (hp1, .inr (1, [.ref hp1_memory, .int p1_size, .ref hp1_stack, .int p1_depth, .ref hp1_starts, .ref hp1_lengths, .int p1_blocks])), (hp1_starts, .inl (E.1, 8, .inl p1_starts)), (hp1_lengths, .inl (E.1, 8, .inl p1_lengths))] → va_S A s.heap H locs → decode cX6_writeBlocks pc = .ok (.return_, 1) → W p l e w_rm_X6_writeBlocks s m args below meth c H locs 0 0 Q (F0 m pc ls []) := by
    intro R hR
    subst hR
    exact ret
  replace hl : lv_has ls 4 [(0, .ref hp0), (1, .ref hp1)] := hl
  unfold f_X6_writeBlocks at h
  refine lv_aload_n hx hb dX6_writeBlocks_0 rfl (lv_at hl 0 rfl) ?_
  refine lv_ldc hx hb hown (hts _ wd_eaf45727) dX6_writeBlocks_1 ?_
  obtain ⟨u1, hu1, h⟩ := bd_t h
  refine cSi (wr := [(hp1, .inr (1, [.ref hp1_memory, .int p1_size, .ref hp1_stack, .int p1_depth, .ref hp1_starts, .ref hp1_lengths, .int p1_blocks])), (hp1_starts, .inl (E.1, 8, .inl p1_starts)), (hp1_lengths, .inl (E.1, 8, .inl p1_lengths))]) (As := [.ref hp0, .int (1296133228 : Int32)]) (rest := []) ⟨hx, hb, hml, hown, hts⟩ (c_X6_openChunk l G E N hp0 hp0_bytes p0_size p0_overflowed p0_bytes (1296133228 : Int32) u1.1 u1.2.1 u1.2.2.1 u1.2.2.2 hu1) ok_X6_openChunk oks_X6_openChunk wd_f5eaee75 ⟨Nat.le_of_ble_eq_true rfl, Nat.le_of_ble_eq_true rfl⟩ hK hP hD hS hA [0, 1] [2, 3, 4] rfl rfl (by decide) (by decide) (by decide) rfl hl.1 rfl (Nat.le_of_ble_eq_true rfl) dX6_writeBlocks_3 ⟨Nat.le_of_ble_eq_true rfl, Nat.le_of_ble_eq_true rfl⟩ (fun H locs a2 hP hD hS => ?_)
  have hP : va_P G vwCl [(hp1, .inr (1, [.ref hp1_memory, .int p1_size, .ref hp1_stack, .int p1_depth, .ref hp1_starts, .ref hp1_lengths, .int p1_blocks])), (hp1_starts, .inl (E.1, 8, .inl p1_starts)), (hp1_lengths, .inl (E.1, 8, .inl p1_lengths)), (hp0, .inr (0, [.ref hp0_bytes, .int u1.2.2.1, .int u1.2.2.2])), (hp0_bytes, .inl (E.1, 1200, .inl u1.2.1))] H := hP
  have hD : va_D A [(hp1, .inr (1, [.ref hp1_memory, .int p1_size, .ref hp1_stack, .int p1_depth, .ref hp1_starts, .ref hp1_lengths, .int p1_blocks])), (hp1_starts, .inl (E.1, 8, .inl p1_starts)), (hp1_lengths, .inl (E.1, 8, .inl p1_lengths)), (hp0, .inr (0, [.ref hp0_bytes, .int u1.2.2.1, .int u1.2.2.2])), (hp0_bytes, .inl (E.1, 1200, .inl u1.2.1))] := hD
  refine lv_istore_n (lv' := [(2, .int u1.1), (0, .ref hp0), (1, .ref hp1)]) hx hb dX6_writeBlocks_6 rfl hl (by decide) rfl (fun ls hl => ?_)
  refine lv_aload_n hx hb dX6_writeBlocks_7 rfl (lv_at hl 1 rfl) ?_
  refine lv_aload_n hx hb dX6_writeBlocks_8 rfl (lv_at hl 2 rfl) ?_
  refine getF (D := G) (ci := 1) (v := .int p1_blocks) (C := RX1) (T := TX1) (N := 7) hx hb hts inG_X1 hown hK.1 hP 0 rfl rfl 6 (by decide) tf_X1_6 (hts _ wd_f1f06e18) rfl dX6_writeBlocks_9 ?_
  obtain ⟨u3, hu3, h⟩ := bd_t h
  refine cVv (wr := [(hp1, .inr (1, [.ref hp1_memory, .int p1_size, .ref hp1_stack, .int p1_depth, .ref hp1_starts, .ref hp1_lengths, .int p1_blocks])), (hp1_starts, .inl (E.1, 8, .inl p1_starts)), (hp1_lengths, .inl (E.1, 8, .inl p1_lengths))]) (As := [.int p1_blocks]) (rest := []) ⟨hx, hb, hml, hown, hts⟩ (c_X0_addFour l G E N hp0 hp0_bytes u1.2.2.1 u1.2.2.2 u1.2.1 p1_blocks u3.1 u3.2.1 u3.2.2 hu3) ok_X0_addFour okv_X0_addFour wd_9d46658a ⟨Nat.le_of_ble_eq_true rfl, Nat.le_of_ble_eq_true rfl⟩ hK hP hD hS hA [3, 4] [0, 1, 2] rfl rfl (by decide) (by decide) (by decide) (va_recv hK.1 hP (ci := 0) (q0 := 3) rfl rfl) rfl hl.1 rfl (Nat.le_of_ble_eq_true rfl) dX6_writeBlocks_12 ⟨Nat.le_of_ble_eq_true rfl, Nat.le_of_ble_eq_true rfl⟩ (fun H locs a4 hP hD hS => ?_)
  have hP : va_P G vwCl [(hp1, .inr (1, [.ref hp1_memory, .int p1_size, .ref hp1_stack, .int p1_depth, .ref hp1_starts, .ref hp1_lengths, .int p1_blocks])), (hp1_starts, .inl (E.1, 8, .inl p1_starts)), (hp1_lengths, .inl (E.1, 8, .inl p1_lengths)), (hp0, .inr (0, [.ref hp0_bytes, .int u3.2.1, .int u3.2.2])), (hp0_bytes, .inl (E.1, 1200, .inl u3.1))] H := hP
  have hD : va_D A [(hp1, .inr (1, [.ref hp1_memory, .int p1_size, .ref hp1_stack, .int p1_depth, .ref hp1_starts, .ref hp1_lengths, .int p1_blocks])), (hp1_starts, .inl (E.1, 8, .inl p1_starts)), (hp1_lengths, .inl (E.1, 8, .inl p1_lengths)), (hp0, .inr (0, [.ref hp0_bytes, .int u3.2.1, .int u3.2.2])), (hp0_bytes, .inl (E.1, 1200, .inl u3.1))] := hD
  refine lv_iconst (v := 0) hx hb dX6_writeBlocks_15 (by decide) ?_
  refine lv_istore_n (lv' := [(3, .int (0 : Int32)), (2, .int u1.1), (0, .ref hp0), (1, .ref hp1)]) hx hb dX6_writeBlocks_16 rfl hl (by decide) rfl (fun ls hl => ?_)
  have hL17 : ∀ (K51 : (Nat → Int32) → Int32 → Int32 → Int32 → Option ((Nat → Int32) × Int32 × Int32)), (∀ (z5 : (Nat → Int32)) (z6 : Int32) (z7 : Int32) (z8 : Int32), K51 z5 z6 z7 z8 = some (o0, o1, o2) → ∀ (H : Heap) (locs : List Loc) (ls : Array Slot), va_P G vwCl [(hp1, .inr (1, [.ref hp1_memory, .int p1_size, .ref hp1_stack, .int p1_depth, .ref hp1_starts, .ref hp1_lengths, .int p1_blocks])), (hp1_starts, .inl (E.1, 8, .inl p1_starts)), (hp1_lengths, .inl (E.1, 8, .inl p1_lengths)), (hp0, .inr (0, [.ref hp0_bytes, .int z6, .int z7])), (hp0_bytes, .inl (E.1, 1200, .inl z5))] H → va_D A [(hp1, .inr (1, [.ref hp1_memory, .int p1_size, .ref hp1_stack, .int p1_depth, .ref hp1_starts, .ref hp1_lengths, .int p1_blocks])), (hp1_starts, .inl (E.1, 8, .inl p1_starts)), (hp1_lengths, .inl (E.1, 8, .inl p1_lengths)), (hp0, .inr (0, [.ref hp0_bytes, .int z6, .int z7])), (hp0_bytes, .inl (E.1, 1200, .inl z5))] → va_S A s.heap H locs → lv_has ls 4 [(0, .ref hp0), (2, .int u1.1)] → W p l e w_rm_X6_writeBlocks s m args below meth c H locs 0 0 Q (F0 m 51 ls [])) → ∀ (n : Nat) (z5 : (Nat → Int32)) (z6 : Int32) (z7 : Int32) (z8 : Int32), L_X6_writeBlocks_17 N p1_blocks p1_starts p1_lengths K51 n z5 z6 z7 z8 = some (o0, o1, o2) → ∀ (H : Heap) (locs : List Loc) (ls : Array Slot), va_P G vwCl [(hp1, .inr (1, [.ref hp1_memory, .int p1_size, .ref hp1_stack, .int p1_depth, .ref hp1_starts, .ref hp1_lengths, .int p1_blocks])), (hp1_starts, .inl (E.1, 8, .inl p1_starts)), (hp1_lengths, .inl (E.1, 8, .inl p1_lengths)), (hp0, .inr (0, [.ref hp0_bytes, .int z6, .int z7])), (hp0_bytes, .inl (E.1, 1200, .inl z5))] H → va_D A [(hp1, .inr (1, [.ref hp1_memory, .int p1_size, .ref hp1_stack, .int p1_depth, .ref hp1_starts, .ref hp1_lengths, .int p1_blocks])), (hp1_starts, .inl (E.1, 8, .inl p1_starts)), (hp1_lengths, .inl (E.1, 8, .inl p1_lengths)), (hp0, .inr (0, [.ref hp0_bytes, .int z6, .int z7])), (hp0_bytes, .inl (E.1, 1200, .inl z5))] → va_S A s.heap H locs → lv_has ls 4 [(0, .ref hp0), (1, .ref hp1), (2, .int u1.1), (3, .int z8)] → W p l e w_rm_X6_writeBlocks s m args below meth c H locs 0 0 Q (F0 m 17 ls []) := by
    intro K51 hK51 n
    induction n with
    | zero =>
      intro z5 z6 z7 z8 h
      replace h : (none : Option ((Nat → Int32) × Int32 × Int32)) = some (o0, o1, o2) := h
      cases h
    | succ n ih =>
      intro z5 z6 z7 z8 h H locs ls hP hD hS hl
      replace h : B_X6_writeBlocks_17 N p1_blocks p1_starts p1_lengths (fun z5 z6 z7 z8 => L_X6_writeBlocks_17 N p1_blocks p1_starts p1_lengths K51 n z5 z6 z7 z8) K51 z5 z6 z7 z8 = some (o0, o1, o2) := h
      obtain ⟨rec17, hrec17⟩ : ∃ f : (Nat → Int32) → Int32 → Int32 → Int32 → Option ((Nat → Int32) × Int32 × Int32), f = (fun z5 z6 z7 z8 => L_X6_writeBlocks_17 N p1_blocks p1_starts p1_lengths K51 n z5 z6 z7 z8) := ⟨_, rfl⟩
      rw [← hrec17] at h
      unfold B_X6_writeBlocks_17 at h
      refine lv_iload_n hx hb dX6_writeBlocks_17 rfl (lv_at hl 3 rfl) ?_
      refine lv_aload_n hx hb dX6_writeBlocks_18 rfl (lv_at hl 1 rfl) ?_
      refine getF (D := G) (ci := 1) (v := .int p1_blocks) (C := RX1) (T := TX1) (N := 7) hx hb hts inG_X1 hown hK.1 hP 0 rfl rfl 6 (by decide) tf_X1_6 (hts _ wd_f1f06e18) rfl dX6_writeBlocks_19 ?_
      refine lv_icmp_ge (tgt := 51) hx hb dX6_writeBlocks_22 (by decide) (fun c9 => ?_) (fun c9 => ?_)
      · replace h := if_t h c9
        exact hK51 z5 z6 z7 z8 h _ _ _ hP hD hS (lv_sub hl [0, 2] rfl)
      · replace h := if_f h c9
        refine lv_aload_n hx hb dX6_writeBlocks_25 rfl (lv_at hl 0 rfl) ?_
        refine lv_aload_n hx hb dX6_writeBlocks_26 rfl (lv_at hl 1 rfl) ?_
        refine getF (D := G) (ci := 1) (v := .ref hp1_starts) (C := RX1) (T := TX1) (N := 7) hx hb hts inG_X1 hown hK.1 hP 0 rfl rfl 4 (by decide) tf_X1_4 (hts _ wd_e87503a2) rfl dX6_writeBlocks_27 ?_
        refine lv_iload_n hx hb dX6_writeBlocks_30 rfl (lv_at hl 3 rfl) ?_
        obtain ⟨g10, h⟩ := gin_t h
        refine va_iald hx hb hK.1 hP 1 0 rfl rfl g10 dX6_writeBlocks_31 ?_
        obtain ⟨u11, hu11, h⟩ := bd_t h
        refine cVv (wr := [(hp1, .inr (1, [.ref hp1_memory, .int p1_size, .ref hp1_stack, .int p1_depth, .ref hp1_starts, .ref hp1_lengths, .int p1_blocks])), (hp1_starts, .inl (E.1, 8, .inl p1_starts)), (hp1_lengths, .inl (E.1, 8, .inl p1_lengths))]) (As := [.int (p1_starts z8.toNatClampNeg)]) (rest := []) ⟨hx, hb, hml, hown, hts⟩ (c_X0_addFour l G E N hp0 hp0_bytes z6 z7 z5 (p1_starts z8.toNatClampNeg) u11.1 u11.2.1 u11.2.2 hu11) ok_X0_addFour okv_X0_addFour wd_9d46658a ⟨Nat.le_of_ble_eq_true rfl, Nat.le_of_ble_eq_true rfl⟩ hK hP hD hS hA [3, 4] [0, 1, 2] rfl rfl (by decide) (by decide) (by decide) (va_recv hK.1 hP (ci := 0) (q0 := 3) rfl rfl) rfl hl.1 rfl (Nat.le_of_ble_eq_true rfl) dX6_writeBlocks_32 ⟨Nat.le_of_ble_eq_true rfl, Nat.le_of_ble_eq_true rfl⟩ (fun H locs a12 hP hD hS => ?_)
        have hP : va_P G vwCl [(hp1, .inr (1, [.ref hp1_memory, .int p1_size, .ref hp1_stack, .int p1_depth, .ref hp1_starts, .ref hp1_lengths, .int p1_blocks])), (hp1_starts, .inl (E.1, 8, .inl p1_starts)), (hp1_lengths, .inl (E.1, 8, .inl p1_lengths)), (hp0, .inr (0, [.ref hp0_bytes, .int u11.2.1, .int u11.2.2])), (hp0_bytes, .inl (E.1, 1200, .inl u11.1))] H := hP
        have hD : va_D A [(hp1, .inr (1, [.ref hp1_memory, .int p1_size, .ref hp1_stack, .int p1_depth, .ref hp1_starts, .ref hp1_lengths, .int p1_blocks])), (hp1_starts, .inl (E.1, 8, .inl p1_starts)), (hp1_lengths, .inl (E.1, 8, .inl p1_lengths)), (hp0, .inr (0, [.ref hp0_bytes, .int u11.2.1, .int u11.2.2])), (hp0_bytes, .inl (E.1, 1200, .inl u11.1))] := hD
        refine lv_aload_n hx hb dX6_writeBlocks_35 rfl (lv_at hl 0 rfl) ?_
        refine lv_aload_n hx hb dX6_writeBlocks_36 rfl (lv_at hl 1 rfl) ?_
        refine getF (D := G) (ci := 1) (v := .ref hp1_lengths) (C := RX1) (T := TX1) (N := 7) hx hb hts inG_X1 hown hK.1 hP 0 rfl rfl 5 (by decide) tf_X1_5 (hts _ wd_0c2695f9) rfl dX6_writeBlocks_37 ?_
        refine lv_iload_n hx hb dX6_writeBlocks_40 rfl (lv_at hl 3 rfl) ?_
        obtain ⟨g13, h⟩ := gin_t h
        refine va_iald hx hb hK.1 hP 2 0 rfl rfl g13 dX6_writeBlocks_41 ?_
        obtain ⟨u14, hu14, h⟩ := bd_t h
        refine cVv (wr := [(hp1, .inr (1, [.ref hp1_memory, .int p1_size, .ref hp1_stack, .int p1_depth, .ref hp1_starts, .ref hp1_lengths, .int p1_blocks])), (hp1_starts, .inl (E.1, 8, .inl p1_starts)), (hp1_lengths, .inl (E.1, 8, .inl p1_lengths))]) (As := [.int (p1_lengths z8.toNatClampNeg)]) (rest := []) ⟨hx, hb, hml, hown, hts⟩ (c_X0_addFour l G E N hp0 hp0_bytes u11.2.1 u11.2.2 u11.1 (p1_lengths z8.toNatClampNeg) u14.1 u14.2.1 u14.2.2 hu14) ok_X0_addFour okv_X0_addFour wd_9d46658a ⟨Nat.le_of_ble_eq_true rfl, Nat.le_of_ble_eq_true rfl⟩ hK hP hD hS hA [3, 4] [0, 1, 2] rfl rfl (by decide) (by decide) (by decide) (va_recv hK.1 hP (ci := 0) (q0 := 3) rfl rfl) rfl hl.1 rfl (Nat.le_of_ble_eq_true rfl) dX6_writeBlocks_42 ⟨Nat.le_of_ble_eq_true rfl, Nat.le_of_ble_eq_true rfl⟩ (fun H locs a15 hP hD hS => ?_)
        have hP : va_P G vwCl [(hp1, .inr (1, [.ref hp1_memory, .int p1_size, .ref hp1_stack, .int p1_depth, .ref hp1_starts, .ref hp1_lengths, .int p1_blocks])), (hp1_starts, .inl (E.1, 8, .inl p1_starts)), (hp1_lengths, .inl (E.1, 8, .inl p1_lengths)), (hp0, .inr (0, [.ref hp0_bytes, .int u14.2.1, .int u14.2.2])), (hp0_bytes, .inl (E.1, 1200, .inl u14.1))] H := hP
        have hD : va_D A [(hp1, .inr (1, [.ref hp1_memory, .int p1_size, .ref hp1_stack, .int p1_depth, .ref hp1_starts, .ref hp1_lengths, .int p1_blocks])), (hp1_starts, .inl (E.1, 8, .inl p1_starts)), (hp1_lengths, .inl (E.1, 8, .inl p1_lengths)), (hp0, .inr (0, [.ref hp0_bytes, .int u14.2.1, .int u14.2.2])), (hp0_bytes, .inl (E.1, 1200, .inl u14.1))] := hD
        obtain ⟨x16, ex16⟩ : ∃ y : Int32, y = z8 + 1 := ⟨_, rfl⟩
        replace h := bn_t h ex16
        refine lv_iinc (v := x16) (lv' := [(3, .int x16), (0, .ref hp0), (1, .ref hp1), (2, .int u1.1)]) hx hb dX6_writeBlocks_45 hl (k := 3) rfl (by rw [ex16]; rfl) (by decide) rfl (fun ls hl => ?_)
        refine lv_goto (tgt := 17) hx hb dX6_writeBlocks_48 (by decide) ?_
        exact ih u14.1 u14.2.1 u14.2.2 x16 (by rw [hrec17] at h; exact h) _ _ _ hP hD hS (lv_sub hl [1, 2, 3, 0] rfl)
  refine hL17 _ (fun z5 z6 z7 z8 h H locs ls hP hD hS hl => ?_) N u3.1 u3.2.1 u3.2.2 (0 : Int32) h _ _ _ hP hD hS (lv_sub hl [2, 3, 1, 0] rfl)
  try dsimp only at h
  refine lv_aload_n hx hb dX6_writeBlocks_51 rfl (lv_at hl 0 rfl) ?_
  refine lv_iload_n hx hb dX6_writeBlocks_52 rfl (lv_at hl 1 rfl) ?_
  obtain ⟨u17, hu17, h⟩ := bd_t h
  refine cSv (wr := [(hp1, .inr (1, [.ref hp1_memory, .int p1_size, .ref hp1_stack, .int p1_depth, .ref hp1_starts, .ref hp1_lengths, .int p1_blocks])), (hp1_starts, .inl (E.1, 8, .inl p1_starts)), (hp1_lengths, .inl (E.1, 8, .inl p1_lengths))]) (As := [.ref hp0, .int u1.1]) (rest := []) ⟨hx, hb, hml, hown, hts⟩ (c_X6_closeChunk l G E N hp0 hp0_bytes z6 z7 z5 u1.1 u17.1 u17.2.1 u17.2.2 hu17) ok_X6_closeChunk oks_X6_closeChunk wd_c6ddec2c ⟨Nat.le_of_ble_eq_true rfl, Nat.le_of_ble_eq_true rfl⟩ hK hP hD hS hA [3, 4] [0, 1, 2] rfl rfl (by decide) (by decide) (by decide) rfl hl.1 rfl (Nat.le_of_ble_eq_true rfl) dX6_writeBlocks_53 ⟨Nat.le_of_ble_eq_true rfl, Nat.le_of_ble_eq_true rfl⟩ (fun H locs a18 hP hD hS => ?_)
  have hP : va_P G vwCl [(hp1, .inr (1, [.ref hp1_memory, .int p1_size, .ref hp1_stack, .int p1_depth, .ref hp1_starts, .ref hp1_lengths, .int p1_blocks])), (hp1_starts, .inl (E.1, 8, .inl p1_starts)), (hp1_lengths, .inl (E.1, 8, .inl p1_lengths)), (hp0, .inr (0, [.ref hp0_bytes, .int u17.2.1, .int u17.2.2])), (hp0_bytes, .inl (E.1, 1200, .inl u17.1))] H := hP
  have hD : va_D A [(hp1, .inr (1, [.ref hp1_memory, .int p1_size, .ref hp1_stack, .int p1_depth, .ref hp1_starts, .ref hp1_lengths, .int p1_blocks])), (hp1_starts, .inl (E.1, 8, .inl p1_starts)), (hp1_lengths, .inl (E.1, 8, .inl p1_lengths)), (hp0, .inr (0, [.ref hp0_bytes, .int u17.2.1, .int u17.2.2])), (hp0_bytes, .inl (E.1, 1200, .inl u17.1))] := hD
  exact ret (u17.1, u17.2.1, u17.2.2) (Option.some.inj h) _ _ _ _ (fun _ => 0) (hP.sub [3, 4, 0, 1, 2] rfl) (hD.sub [3, 4, 0, 1, 2] (by decide) rfl) hS dX6_writeBlocks_56
def B_X6_writeOthers_24 (p1_lengths : (Nat → Int32)) (p1_bytes : (Nat → Int32)) (z4 : Int32) (rec24 : (Nat → Int32) → Int32 → Int32 → Int32 → Option ((Nat → Int32) × Int32 × Int32)) (K57 : (Nat → Int32) → Int32 → Int32 → Int32 → Option ((Nat → Int32) × Int32 × Int32)) (z9 : (Nat → Int32)) (z10 : Int32) (z11 : Int32) (z12 : Int32) : Option ((Nat → Int32) × Int32 × Int32) :=
  gin z4 4 <|
  if (p1_lengths z4.toNatClampNeg) ≤ z12 then (
  K57 z9 z10 z11 z12)
  else
  gin ((z4 * (60 : Int32)) + z12) 240 <|
  bd (f_X0_add (p1_bytes ((z4 * (60 : Int32)) + z12).toNatClampNeg) z10 z11 z9) fun u16 =>
  bn (z12 + 1) fun x18 =>
  rec24 u16.1 u16.2.1 u16.2.2 x18
def L_X6_writeOthers_24 (p1_lengths : (Nat → Int32)) (p1_bytes : (Nat → Int32)) (z4 : Int32) (K57 : (Nat → Int32) → Int32 → Int32 → Int32 → Option ((Nat → Int32) × Int32 × Int32)) : Nat → (Nat → Int32) → Int32 → Int32 → Int32 → Option ((Nat → Int32) × Int32 × Int32)
    | 0, _, _, _, _ => none
    | n + 1, z9, z10, z11, z12 => B_X6_writeOthers_24 p1_lengths p1_bytes z4 (fun z9 z10 z11 z12 => L_X6_writeOthers_24 p1_lengths p1_bytes z4 K57 n z9 z10 z11 z12) K57 z9 z10 z11 z12
def B_X6_writeOthers_2 (N : Nat) (p1_count : Int32) (p1_letters : (Nat → Int32)) (p1_lengths : (Nat → Int32)) (p1_bytes : (Nat → Int32)) (rec2 : (Nat → Int32) → Int32 → Int32 → Int32 → Option ((Nat → Int32) × Int32 × Int32)) (K68 : (Nat → Int32) → Int32 → Int32 → Int32 → Option ((Nat → Int32) × Int32 × Int32)) (z1 : (Nat → Int32)) (z2 : Int32) (z3 : Int32) (z4 : Int32) : Option ((Nat → Int32) × Int32 × Int32) :=
  if p1_count ≤ z4 then (
  K68 z1 z2 z3 z4)
  else
  gin z4 4 <|
  bd (f_X6_openChunk N (p1_letters z4.toNatClampNeg) z2 z3 z1) fun u7 =>
  L_X6_writeOthers_24 p1_lengths p1_bytes z4 
  (fun z9 z10 z11 z12 =>
  bd (f_X6_closeChunk N u7.1 z10 z11 z9) fun u19 =>
  bn (z4 + 1) fun x21 =>
  rec2 u19.1 u19.2.1 u19.2.2 x21) N u7.2.1 u7.2.2.1 u7.2.2.2 (0 : Int32)
def L_X6_writeOthers_2 (N : Nat) (p1_count : Int32) (p1_letters : (Nat → Int32)) (p1_lengths : (Nat → Int32)) (p1_bytes : (Nat → Int32)) (K68 : (Nat → Int32) → Int32 → Int32 → Int32 → Option ((Nat → Int32) × Int32 × Int32)) : Nat → (Nat → Int32) → Int32 → Int32 → Int32 → Option ((Nat → Int32) × Int32 × Int32)
    | 0, _, _, _, _ => none
    | n + 1, z1, z2, z3, z4 => B_X6_writeOthers_2 N p1_count p1_letters p1_lengths p1_bytes (fun z1 z2 z3 z4 => L_X6_writeOthers_2 N p1_count p1_letters p1_lengths p1_bytes K68 n z1 z2 z3 z4) K68 z1 z2 z3 z4
def f_X6_writeOthers (N : Nat) (p1_count : Int32) (p1_letters : (Nat → Int32)) (p0_size : Int32) (p0_overflowed : Int32) (p0_bytes : (Nat → Int32)) (p1_lengths : (Nat → Int32)) (p1_bytes : (Nat → Int32)) : Option ((Nat → Int32) × Int32 × Int32) :=
  L_X6_writeOthers_2 N p1_count p1_letters p1_lengths p1_bytes 
  (fun z1 z2 z3 z4 =>
  some (z1, z2, z3)) N p0_bytes p0_size p0_overflowed (0 : Int32)
abbrev w_rm_X6_writeOthers : Room := { frames := 4, cells := 0, slots := 0, locals := 87 }
set_option maxHeartbeats 4000000 in
set_option maxRecDepth 100000 in
theorem c_X6_writeOthers (l : Launch) (G : va_G) (E : ClassId × ClassId × ClassId) (N : Nat) (hp1 : Nat) (p1_count : Int32) (hp1_letters : Nat) (hp1_lengths : Nat) (hp1_bytes : Nat) (p1_letters : (Nat → Int32)) (hp0 : Nat) (hp0_bytes : Nat) (p0_size : Int32) (p0_overflowed : Int32) (p0_bytes : (Nat → Int32)) (p1_lengths : (Nat → Int32)) (p1_bytes : (Nat → Int32)) (o0 : (Nat → Int32)) (o1 : Int32) (o2 : Int32) (h : f_X6_writeOthers N p1_count p1_letters p0_size p0_overflowed p0_bytes p1_lengths p1_bytes = some (o0, o1, o2)) : MV l G E yX6_writeOthers cX6_writeOthers 5 w_rm_X6_writeOthers [.ref hp0, .ref hp1] [(hp1, .inr (2, [.int p1_count, .ref hp1_letters, .ref hp1_lengths, .ref hp1_bytes])), (hp1_letters, .inl (E.1, 4, .inl p1_letters)), (hp0, .inr (0, [.ref hp0_bytes, .int p0_size, .int p0_overflowed])), (hp0_bytes, .inl (E.1, 1200, .inl p0_bytes)), (hp1_lengths, .inl (E.1, 4, .inl p1_lengths)), (hp1_bytes, .inl (E.1, 240, .inl p1_bytes))] (fun a => [(hp1, .inr (2, [.int p1_count, .ref hp1_letters, .ref hp1_lengths, .ref hp1_bytes])), (hp1_letters, .inl (E.1, 4, .inl p1_letters)), (hp0, .inr (0, [.ref hp0_bytes, .int o1, .int o2])), (hp0_bytes, .inl (E.1, 1200, .inl o0)), (hp1_lengths, .inl (E.1, 4, .inl p1_lengths)), (hp1_bytes, .inl (E.1, 240, .inl p1_bytes))]) 0 0 := by
  refine MV_of (by decide) (Nat.le_of_ble_eq_true rfl) ?_
  intro p e s m args below meth c A Q hx hb hml hown hin hts hK hA hP hD hS ret ls hl
  replace ret : ∀ (R : ((Nat → Int32) × Int32 × Int32)), R = (o0, o1, o2) → ∀ (H : Heap) (locs : List Loc) (pc : Nat) (ls : Array Slot) (a : Nat → Nat), va_P G vwCl [(hp1, .inr (2, [.int p1_count, .ref hp1_letters, .ref hp1_lengths, .ref hp1_bytes])), (hp1_letters, .inl (E.1, 4, .inl p1_letters)), (hp0, .inr (0, [.ref hp0_bytes, .int R.2.1, .int R.2.2])), (hp0_bytes, .inl (E.1, 1200, .inl R.1)), (hp1_lengths, .inl (E.1, 4, .inl p1_lengths)), (hp1_bytes, .inl (E.1, 240, .inl p1_bytes))] H → va_D A [(hp1, .inr (2, [.int p1_count, .ref hp1_letters, .ref hp1_lengths, .ref hp1_bytes])), (hp1_letters, .inl (E.1, 4, .inl p1_letters)), (hp0, .inr (0, [.ref hp0_bytes, .int R.2.1, .int R.2.2])), (hp0_bytes, .inl (E.1, 1200, .inl R.1)), (hp1_lengths, .inl (E.1, 4, .inl p1_lengths)), (hp1_bytes, .inl (E.1, 240, .inl p1_bytes))] → va_S A s.heap H locs → decode cX6_writeOthers pc = .ok (.return_, 1) → W p l e w_rm_X6_writeOthers s m args below meth c H locs 0 0 Q (F0 m pc ls []) := by
    intro R hR
    subst hR
    exact ret
  replace hl : lv_has ls 5 [(0, .ref hp0), (1, .ref hp1)] := hl
  unfold f_X6_writeOthers at h
  refine lv_iconst (v := 0) hx hb dX6_writeOthers_0 (by decide) ?_
  refine lv_istore_n (lv' := [(2, .int (0 : Int32)), (0, .ref hp0), (1, .ref hp1)]) hx hb dX6_writeOthers_1 rfl hl (by decide) rfl (fun ls hl => ?_)
  have hL2 : ∀ (K68 : (Nat → Int32) → Int32 → Int32 → Int32 → Option ((Nat → Int32) × Int32 × Int32)), (∀ (z1 : (Nat → Int32)) (z2 : Int32) (z3 : Int32) (z4 : Int32), K68 z1 z2 z3 z4 = some (o0, o1, o2) → ∀ (H : Heap) (locs : List Loc) (ls : Array Slot), va_P G vwCl [(hp1, .inr (2, [.int p1_count, .ref hp1_letters, .ref hp1_lengths, .ref hp1_bytes])), (hp1_letters, .inl (E.1, 4, .inl p1_letters)), (hp0, .inr (0, [.ref hp0_bytes, .int z2, .int z3])), (hp0_bytes, .inl (E.1, 1200, .inl z1)), (hp1_lengths, .inl (E.1, 4, .inl p1_lengths)), (hp1_bytes, .inl (E.1, 240, .inl p1_bytes))] H → va_D A [(hp1, .inr (2, [.int p1_count, .ref hp1_letters, .ref hp1_lengths, .ref hp1_bytes])), (hp1_letters, .inl (E.1, 4, .inl p1_letters)), (hp0, .inr (0, [.ref hp0_bytes, .int z2, .int z3])), (hp0_bytes, .inl (E.1, 1200, .inl z1)), (hp1_lengths, .inl (E.1, 4, .inl p1_lengths)), (hp1_bytes, .inl (E.1, 240, .inl p1_bytes))] → va_S A s.heap H locs → lv_has ls 5 [] → W p l e w_rm_X6_writeOthers s m args below meth c H locs 0 0 Q (F0 m 68 ls [])) → ∀ (n : Nat) (z1 : (Nat → Int32)) (z2 : Int32) (z3 : Int32) (z4 : Int32), L_X6_writeOthers_2 N p1_count p1_letters p1_lengths p1_bytes K68 n z1 z2 z3 z4 = some (o0, o1, o2) → ∀ (H : Heap) (locs : List Loc) (ls : Array Slot), va_P G vwCl [(hp1, .inr (2, [.int p1_count, .ref hp1_letters, .ref hp1_lengths, .ref hp1_bytes])), (hp1_letters, .inl (E.1, 4, .inl p1_letters)), (hp0, .inr (0, [.ref hp0_bytes, .int z2, .int z3])), (hp0_bytes, .inl (E.1, 1200, .inl z1)), (hp1_lengths, .inl (E.1, 4, .inl p1_lengths)), (hp1_bytes, .inl (E.1, 240, .inl p1_bytes))] H → va_D A [(hp1, .inr (2, [.int p1_count, .ref hp1_letters, .ref hp1_lengths, .ref hp1_bytes])), (hp1_letters, .inl (E.1, 4, .inl p1_letters)), (hp0, .inr (0, [.ref hp0_bytes, .int z2, .int z3])), (hp0_bytes, .inl (E.1, 1200, .inl z1)), (hp1_lengths, .inl (E.1, 4, .inl p1_lengths)), (hp1_bytes, .inl (E.1, 240, .inl p1_bytes))] → va_S A s.heap H locs → lv_has ls 5 [(0, .ref hp0), (1, .ref hp1), (2, .int z4)] → W p l e w_rm_X6_writeOthers s m args below meth c H locs 0 0 Q (F0 m 2 ls []) := by
    intro K68 hK68 n
    induction n with
    | zero =>
      intro z1 z2 z3 z4 h
      replace h : (none : Option ((Nat → Int32) × Int32 × Int32)) = some (o0, o1, o2) := h
      cases h
    | succ n ih =>
      intro z1 z2 z3 z4 h H locs ls hP hD hS hl
      replace h : B_X6_writeOthers_2 N p1_count p1_letters p1_lengths p1_bytes (fun z1 z2 z3 z4 => L_X6_writeOthers_2 N p1_count p1_letters p1_lengths p1_bytes K68 n z1 z2 z3 z4) K68 z1 z2 z3 z4 = some (o0, o1, o2) := h
      obtain ⟨rec2, hrec2⟩ : ∃ f : (Nat → Int32) → Int32 → Int32 → Int32 → Option ((Nat → Int32) × Int32 × Int32), f = (fun z1 z2 z3 z4 => L_X6_writeOthers_2 N p1_count p1_letters p1_lengths p1_bytes K68 n z1 z2 z3 z4) := ⟨_, rfl⟩
      rw [← hrec2] at h
      unfold B_X6_writeOthers_2 at h
      refine lv_iload_n hx hb dX6_writeOthers_2 rfl (lv_at hl 2 rfl) ?_
      refine lv_aload_n hx hb dX6_writeOthers_3 rfl (lv_at hl 1 rfl) ?_
      refine getF (D := G) (ci := 2) (v := .int p1_count) (C := RX2) (T := TX2) (N := 4) hx hb hts inG_X2 hown hK.1 hP 0 rfl rfl 0 (by decide) tf_X2_0 (hts _ wd_7d565621) rfl dX6_writeOthers_4 ?_
      refine lv_icmp_ge (tgt := 68) hx hb dX6_writeOthers_7 (by decide) (fun c5 => ?_) (fun c5 => ?_)
      · replace h := if_t h c5
        exact hK68 z1 z2 z3 z4 h _ _ _ hP hD hS (lv_sub hl [] rfl)
      · replace h := if_f h c5
        refine lv_aload_n hx hb dX6_writeOthers_10 rfl (lv_at hl 0 rfl) ?_
        refine lv_aload_n hx hb dX6_writeOthers_11 rfl (lv_at hl 1 rfl) ?_
        refine getF (D := G) (ci := 2) (v := .ref hp1_letters) (C := RX2) (T := TX2) (N := 4) hx hb hts inG_X2 hown hK.1 hP 0 rfl rfl 1 (by decide) tf_X2_1 (hts _ wd_ad36b3b8) rfl dX6_writeOthers_12 ?_
        refine lv_iload_n hx hb dX6_writeOthers_15 rfl (lv_at hl 2 rfl) ?_
        obtain ⟨g6, h⟩ := gin_t h
        refine va_iald hx hb hK.1 hP 1 0 rfl rfl g6 dX6_writeOthers_16 ?_
        obtain ⟨u7, hu7, h⟩ := bd_t h
        refine cSi (wr := [(hp1, .inr (2, [.int p1_count, .ref hp1_letters, .ref hp1_lengths, .ref hp1_bytes])), (hp1_letters, .inl (E.1, 4, .inl p1_letters)), (hp1_lengths, .inl (E.1, 4, .inl p1_lengths)), (hp1_bytes, .inl (E.1, 240, .inl p1_bytes))]) (As := [.ref hp0, .int (p1_letters z4.toNatClampNeg)]) (rest := []) ⟨hx, hb, hml, hown, hts⟩ (c_X6_openChunk l G E N hp0 hp0_bytes z2 z3 z1 (p1_letters z4.toNatClampNeg) u7.1 u7.2.1 u7.2.2.1 u7.2.2.2 hu7) ok_X6_openChunk oks_X6_openChunk wd_f5eaee75 ⟨Nat.le_of_ble_eq_true rfl, Nat.le_of_ble_eq_true rfl⟩ hK hP hD hS hA [2, 3] [0, 1, 4, 5] rfl rfl (by decide) (by decide) (by decide) rfl hl.1 rfl (Nat.le_of_ble_eq_true rfl) dX6_writeOthers_17 ⟨Nat.le_of_ble_eq_true rfl, Nat.le_of_ble_eq_true rfl⟩ (fun H locs a8 hP hD hS => ?_)
        have hP : va_P G vwCl [(hp1, .inr (2, [.int p1_count, .ref hp1_letters, .ref hp1_lengths, .ref hp1_bytes])), (hp1_letters, .inl (E.1, 4, .inl p1_letters)), (hp1_lengths, .inl (E.1, 4, .inl p1_lengths)), (hp1_bytes, .inl (E.1, 240, .inl p1_bytes)), (hp0, .inr (0, [.ref hp0_bytes, .int u7.2.2.1, .int u7.2.2.2])), (hp0_bytes, .inl (E.1, 1200, .inl u7.2.1))] H := hP
        have hD : va_D A [(hp1, .inr (2, [.int p1_count, .ref hp1_letters, .ref hp1_lengths, .ref hp1_bytes])), (hp1_letters, .inl (E.1, 4, .inl p1_letters)), (hp1_lengths, .inl (E.1, 4, .inl p1_lengths)), (hp1_bytes, .inl (E.1, 240, .inl p1_bytes)), (hp0, .inr (0, [.ref hp0_bytes, .int u7.2.2.1, .int u7.2.2.2])), (hp0_bytes, .inl (E.1, 1200, .inl u7.2.1))] := hD
        refine lv_istore_n (lv' := [(3, .int u7.1), (0, .ref hp0), (1, .ref hp1), (2, .int z4)]) hx hb dX6_writeOthers_20 rfl hl (by decide) rfl (fun ls hl => ?_)
        refine lv_iconst (v := 0) hx hb dX6_writeOthers_21 (by decide) ?_
        refine lv_istore (lv' := [(4, .int (0 : Int32)), (3, .int u7.1), (0, .ref hp0), (1, .ref hp1), (2, .int z4)]) hx hb dX6_writeOthers_22 hl (by decide) rfl (fun ls hl => ?_)
        have hL24 : ∀ (K57 : (Nat → Int32) → Int32 → Int32 → Int32 → Option ((Nat → Int32) × Int32 × Int32)), (∀ (z9 : (Nat → Int32)) (z10 : Int32) (z11 : Int32) (z12 : Int32), K57 z9 z10 z11 z12 = some (o0, o1, o2) → ∀ (H : Heap) (locs : List Loc) (ls : Array Slot), va_P G vwCl [(hp1, .inr (2, [.int p1_count, .ref hp1_letters, .ref hp1_lengths, .ref hp1_bytes])), (hp1_letters, .inl (E.1, 4, .inl p1_letters)), (hp1_lengths, .inl (E.1, 4, .inl p1_lengths)), (hp1_bytes, .inl (E.1, 240, .inl p1_bytes)), (hp0, .inr (0, [.ref hp0_bytes, .int z10, .int z11])), (hp0_bytes, .inl (E.1, 1200, .inl z9))] H → va_D A [(hp1, .inr (2, [.int p1_count, .ref hp1_letters, .ref hp1_lengths, .ref hp1_bytes])), (hp1_letters, .inl (E.1, 4, .inl p1_letters)), (hp1_lengths, .inl (E.1, 4, .inl p1_lengths)), (hp1_bytes, .inl (E.1, 240, .inl p1_bytes)), (hp0, .inr (0, [.ref hp0_bytes, .int z10, .int z11])), (hp0_bytes, .inl (E.1, 1200, .inl z9))] → va_S A s.heap H locs → lv_has ls 5 [(0, .ref hp0), (1, .ref hp1), (2, .int z4), (3, .int u7.1)] → W p l e w_rm_X6_writeOthers s m args below meth c H locs 0 0 Q (F0 m 57 ls [])) → ∀ (n : Nat) (z9 : (Nat → Int32)) (z10 : Int32) (z11 : Int32) (z12 : Int32), L_X6_writeOthers_24 p1_lengths p1_bytes z4 K57 n z9 z10 z11 z12 = some (o0, o1, o2) → ∀ (H : Heap) (locs : List Loc) (ls : Array Slot), va_P G vwCl [(hp1, .inr (2, [.int p1_count, .ref hp1_letters, .ref hp1_lengths, .ref hp1_bytes])), (hp1_letters, .inl (E.1, 4, .inl p1_letters)), (hp1_lengths, .inl (E.1, 4, .inl p1_lengths)), (hp1_bytes, .inl (E.1, 240, .inl p1_bytes)), (hp0, .inr (0, [.ref hp0_bytes, .int z10, .int z11])), (hp0_bytes, .inl (E.1, 1200, .inl z9))] H → va_D A [(hp1, .inr (2, [.int p1_count, .ref hp1_letters, .ref hp1_lengths, .ref hp1_bytes])), (hp1_letters, .inl (E.1, 4, .inl p1_letters)), (hp1_lengths, .inl (E.1, 4, .inl p1_lengths)), (hp1_bytes, .inl (E.1, 240, .inl p1_bytes)), (hp0, .inr (0, [.ref hp0_bytes, .int z10, .int z11])), (hp0_bytes, .inl (E.1, 1200, .inl z9))] → va_S A s.heap H locs → lv_has ls 5 [(0, .ref hp0), (1, .ref hp1), (2, .int z4), (3, .int u7.1), (4, .int z12)] → W p l e w_rm_X6_writeOthers s m args below meth c H locs 0 0 Q (F0 m 24 ls []) := by
          intro K57 hK57 n
          induction n with
          | zero =>
            intro z9 z10 z11 z12 h
            replace h : (none : Option ((Nat → Int32) × Int32 × Int32)) = some (o0, o1, o2) := h
            cases h
          | succ n ih =>
            intro z9 z10 z11 z12 h H locs ls hP hD hS hl
            replace h : B_X6_writeOthers_24 p1_lengths p1_bytes z4 (fun z9 z10 z11 z12 => L_X6_writeOthers_24 p1_lengths p1_bytes z4 K57 n z9 z10 z11 z12) K57 z9 z10 z11 z12 = some (o0, o1, o2) := h
            obtain ⟨rec24, hrec24⟩ : ∃ f : (Nat → Int32) → Int32 → Int32 → Int32 → Option ((Nat → Int32) × Int32 × Int32), f = (fun z9 z10 z11 z12 => L_X6_writeOthers_24 p1_lengths p1_bytes z4 K57 n z9 z10 z11 z12) := ⟨_, rfl⟩
            rw [← hrec24] at h
            unfold B_X6_writeOthers_24 at h
            refine lv_iload hx hb dX6_writeOthers_24 (lv_at hl 4 rfl) ?_
            refine lv_aload_n hx hb dX6_writeOthers_26 rfl (lv_at hl 1 rfl) ?_
            refine getF (D := G) (ci := 2) (v := .ref hp1_lengths) (C := RX2) (T := TX2) (N := 4) hx hb hts inG_X2 hown hK.1 hP 0 rfl rfl 2 (by decide) tf_X2_2 (hts _ wd_9e693f12) rfl dX6_writeOthers_27 ?_
            refine lv_iload_n hx hb dX6_writeOthers_30 rfl (lv_at hl 2 rfl) ?_
            obtain ⟨g13, h⟩ := gin_t h
            refine va_iald hx hb hK.1 hP 2 0 rfl rfl g13 dX6_writeOthers_31 ?_
            refine lv_icmp_ge (tgt := 57) hx hb dX6_writeOthers_32 (by decide) (fun c14 => ?_) (fun c14 => ?_)
            · replace h := if_t h c14
              exact hK57 z9 z10 z11 z12 h _ _ _ hP hD hS (lv_sub hl [0, 1, 2, 3] rfl)
            · replace h := if_f h c14
              refine lv_aload_n hx hb dX6_writeOthers_35 rfl (lv_at hl 0 rfl) ?_
              refine lv_aload_n hx hb dX6_writeOthers_36 rfl (lv_at hl 1 rfl) ?_
              refine getF (D := G) (ci := 2) (v := .ref hp1_bytes) (C := RX2) (T := TX2) (N := 4) hx hb hts inG_X2 hown hK.1 hP 0 rfl rfl 3 (by decide) tf_X2_3 (hts _ wd_b9416320) rfl dX6_writeOthers_37 ?_
              refine lv_iload_n hx hb dX6_writeOthers_40 rfl (lv_at hl 2 rfl) ?_
              refine lv_bipush (v := 60) hx hb dX6_writeOthers_41 (by decide) ?_
              refine lv_imul hx hb dX6_writeOthers_43 ?_
              refine lv_iload hx hb dX6_writeOthers_44 (lv_at hl 4 rfl) ?_
              refine lv_iadd hx hb dX6_writeOthers_46 ?_
              obtain ⟨g15, h⟩ := gin_t h
              refine va_iald hx hb hK.1 hP 3 0 rfl rfl g15 dX6_writeOthers_47 ?_
              obtain ⟨u16, hu16, h⟩ := bd_t h
              refine cVv (wr := [(hp1, .inr (2, [.int p1_count, .ref hp1_letters, .ref hp1_lengths, .ref hp1_bytes])), (hp1_letters, .inl (E.1, 4, .inl p1_letters)), (hp1_lengths, .inl (E.1, 4, .inl p1_lengths)), (hp1_bytes, .inl (E.1, 240, .inl p1_bytes))]) (As := [.int (p1_bytes ((z4 * (60 : Int32)) + z12).toNatClampNeg)]) (rest := []) ⟨hx, hb, hml, hown, hts⟩ (c_X0_add l G E hp0 hp0_bytes z10 z11 z9 (p1_bytes ((z4 * (60 : Int32)) + z12).toNatClampNeg) u16.1 u16.2.1 u16.2.2 hu16) ok_X0_add okv_X0_add wd_1c73391c ⟨Nat.le_of_ble_eq_true rfl, Nat.le_of_ble_eq_true rfl⟩ hK hP hD hS hA [4, 5] [0, 1, 2, 3] rfl rfl (by decide) (by decide) (by decide) (va_recv hK.1 hP (ci := 0) (q0 := 4) rfl rfl) rfl hl.1 rfl (Nat.le_of_ble_eq_true rfl) dX6_writeOthers_48 ⟨Nat.le_of_ble_eq_true rfl, Nat.le_of_ble_eq_true rfl⟩ (fun H locs a17 hP hD hS => ?_)
              have hP : va_P G vwCl [(hp1, .inr (2, [.int p1_count, .ref hp1_letters, .ref hp1_lengths, .ref hp1_bytes])), (hp1_letters, .inl (E.1, 4, .inl p1_letters)), (hp1_lengths, .inl (E.1, 4, .inl p1_lengths)), (hp1_bytes, .inl (E.1, 240, .inl p1_bytes)), (hp0, .inr (0, [.ref hp0_bytes, .int u16.2.1, .int u16.2.2])), (hp0_bytes, .inl (E.1, 1200, .inl u16.1))] H := hP
              have hD : va_D A [(hp1, .inr (2, [.int p1_count, .ref hp1_letters, .ref hp1_lengths, .ref hp1_bytes])), (hp1_letters, .inl (E.1, 4, .inl p1_letters)), (hp1_lengths, .inl (E.1, 4, .inl p1_lengths)), (hp1_bytes, .inl (E.1, 240, .inl p1_bytes)), (hp0, .inr (0, [.ref hp0_bytes, .int u16.2.1, .int u16.2.2])), (hp0_bytes, .inl (E.1, 1200, .inl u16.1))] := hD
              obtain ⟨x18, ex18⟩ : ∃ y : Int32, y = z12 + 1 := ⟨_, rfl⟩
              replace h := bn_t h ex18
              refine lv_iinc (v := x18) (lv' := [(4, .int x18), (0, .ref hp0), (1, .ref hp1), (2, .int z4), (3, .int u7.1)]) hx hb dX6_writeOthers_51 hl (k := 4) rfl (by rw [ex18]; rfl) (by decide) rfl (fun ls hl => ?_)
              refine lv_goto (tgt := 24) hx hb dX6_writeOthers_54 (by decide) ?_
              exact ih u16.1 u16.2.1 u16.2.2 x18 (by rw [hrec24] at h; exact h) _ _ _ hP hD hS (lv_sub hl [1, 2, 3, 4, 0] rfl)
        refine hL24 _ (fun z9 z10 z11 z12 h H locs ls hP hD hS hl => ?_) N u7.2.1 u7.2.2.1 u7.2.2.2 (0 : Int32) h _ _ _ hP hD hS (lv_sub hl [2, 3, 4, 1, 0] rfl)
        try dsimp only at h
        refine lv_aload_n hx hb dX6_writeOthers_57 rfl (lv_at hl 0 rfl) ?_
        refine lv_iload_n hx hb dX6_writeOthers_58 rfl (lv_at hl 3 rfl) ?_
        obtain ⟨u19, hu19, h⟩ := bd_t h
        refine cSv (wr := [(hp1, .inr (2, [.int p1_count, .ref hp1_letters, .ref hp1_lengths, .ref hp1_bytes])), (hp1_letters, .inl (E.1, 4, .inl p1_letters)), (hp1_lengths, .inl (E.1, 4, .inl p1_lengths)), (hp1_bytes, .inl (E.1, 240, .inl p1_bytes))]) (As := [.ref hp0, .int u7.1]) (rest := []) ⟨hx, hb, hml, hown, hts⟩ (c_X6_closeChunk l G E N hp0 hp0_bytes z10 z11 z9 u7.1 u19.1 u19.2.1 u19.2.2 hu19) ok_X6_closeChunk oks_X6_closeChunk wd_c6ddec2c ⟨Nat.le_of_ble_eq_true rfl, Nat.le_of_ble_eq_true rfl⟩ hK hP hD hS hA [4, 5] [0, 1, 2, 3] rfl rfl (by decide) (by decide) (by decide) rfl hl.1 rfl (Nat.le_of_ble_eq_true rfl) dX6_writeOthers_59 ⟨Nat.le_of_ble_eq_true rfl, Nat.le_of_ble_eq_true rfl⟩ (fun H locs a20 hP hD hS => ?_)
        have hP : va_P G vwCl [(hp1, .inr (2, [.int p1_count, .ref hp1_letters, .ref hp1_lengths, .ref hp1_bytes])), (hp1_letters, .inl (E.1, 4, .inl p1_letters)), (hp1_lengths, .inl (E.1, 4, .inl p1_lengths)), (hp1_bytes, .inl (E.1, 240, .inl p1_bytes)), (hp0, .inr (0, [.ref hp0_bytes, .int u19.2.1, .int u19.2.2])), (hp0_bytes, .inl (E.1, 1200, .inl u19.1))] H := hP
        have hD : va_D A [(hp1, .inr (2, [.int p1_count, .ref hp1_letters, .ref hp1_lengths, .ref hp1_bytes])), (hp1_letters, .inl (E.1, 4, .inl p1_letters)), (hp1_lengths, .inl (E.1, 4, .inl p1_lengths)), (hp1_bytes, .inl (E.1, 240, .inl p1_bytes)), (hp0, .inr (0, [.ref hp0_bytes, .int u19.2.1, .int u19.2.2])), (hp0_bytes, .inl (E.1, 1200, .inl u19.1))] := hD
        obtain ⟨x21, ex21⟩ : ∃ y : Int32, y = z4 + 1 := ⟨_, rfl⟩
        replace h := bn_t h ex21
        refine lv_iinc (v := x21) (lv' := [(2, .int x21), (0, .ref hp0), (1, .ref hp1), (3, .int u7.1)]) hx hb dX6_writeOthers_62 hl (k := 2) rfl (by rw [ex21]; rfl) (by decide) rfl (fun ls hl => ?_)
        refine lv_goto (tgt := 2) hx hb dX6_writeOthers_65 (by decide) ?_
        exact ih u19.1 u19.2.1 u19.2.2 x21 (by rw [hrec2] at h; exact h) _ _ _ (hP.sub [0, 1, 4, 5, 2, 3] rfl) (hD.sub [0, 1, 4, 5, 2, 3] (by decide) rfl) hS (lv_sub hl [1, 2, 0] rfl)
  refine hL2 _ (fun z1 z2 z3 z4 h H locs ls hP hD hS hl => ?_) N p0_bytes p0_size p0_overflowed (0 : Int32) h _ _ _ hP hD hS (lv_sub hl [1, 2, 0] rfl)
  try dsimp only at h
  exact ret (z1, z2, z3) (Option.some.inj h) _ _ _ _ (fun _ => 0) hP hD hS dX6_writeOthers_68
def J_X6_writeFile_45 (N : Nat) (p3_count : Int32) (p3_letters : (Nat → Int32)) (p3_lengths : (Nat → Int32)) (p3_bytes : (Nat → Int32)) (y14 : (Nat → Int32)) (y15 : Int32) (y16 : Int32) : Option ((Nat → Int32) × Int32 × Int32) :=
  bd (f_X6_writeOthers N p3_count p3_letters y15 y16 y14 p3_lengths p3_bytes) fun u17 =>
  bd (f_X0_setFour N (4 : Int32) (u17.2.1 - (8 : Int32)) u17.1) fun u19 =>
  some (u19, u17.2.1, u17.2.2)
def f_X6_writeFile (N : Nat) (p0_size : Int32) (p0_overflowed : Int32) (p0_bytes : (Nat → Int32)) (p1_ram : Int32) (p1_original : (Nat → Int32)) (p2_size : Int32) (p2_depth : Int32) (p2_blocks : Int32) (p2_memory : (Nat → Int32)) (p2_stack : (Nat → Int32)) (p2_starts : (Nat → Int32)) (p3_count : Int32) (p3_letters : (Nat → Int32)) (p3_lengths : (Nat → Int32)) (p3_bytes : (Nat → Int32)) (p2_lengths : (Nat → Int32)) : Option ((Nat → Int32) × Int32 × Int32) :=
  bd (f_X0_addFour N (1179603533 : Int32) p0_size p0_overflowed p0_bytes) fun u1 =>
  bd (f_X0_addFour N (0 : Int32) u1.2.1 u1.2.2 u1.1) fun u3 =>
  bd (f_X0_addFour N (1229347411 : Int32) u3.2.1 u3.2.2 u3.1) fun u5 =>
  bd (f_X6_writeHead N u5.2.1 u5.2.2 u5.1 p1_original) fun u7 =>
  bd (f_X6_writeMemory N u7.2.1 u7.2.2 u7.1 p2_size p1_ram p2_memory p1_original) fun u9 =>
  bd (f_X6_writeStack N u9.2.1 u9.2.2 u9.1 p2_depth p2_stack) fun u11 =>
  if p2_blocks ≤ 0 then (
  J_X6_writeFile_45 N p3_count p3_letters p3_lengths p3_bytes u11.1 u11.2.1 u11.2.2)
  else
  bd (f_X6_writeBlocks N u11.2.1 u11.2.2 u11.1 p2_blocks p2_starts p2_lengths) fun u21 =>
  J_X6_writeFile_45 N p3_count p3_letters p3_lengths p3_bytes u21.1 u21.2.1 u21.2.2
abbrev w_rm_X6_writeFile : Room := { frames := 5, cells := 0, slots := 0, locals := 113 }
set_option maxHeartbeats 4000000 in
set_option maxRecDepth 100000 in
theorem c_X6_writeFile (l : Launch) (G : va_G) (E : ClassId × ClassId × ClassId) (N : Nat) (hp0 : Nat) (hp0_bytes : Nat) (p0_size : Int32) (p0_overflowed : Int32) (p0_bytes : (Nat → Int32)) (hp1 : Nat) (p1_ram : Int32) (p1_end : Int32) (hp1_original : Nat) (p1_original : (Nat → Int32)) (hp2 : Nat) (hp2_memory : Nat) (p2_size : Int32) (hp2_stack : Nat) (p2_depth : Int32) (hp2_starts : Nat) (hp2_lengths : Nat) (p2_blocks : Int32) (p2_memory : (Nat → Int32)) (p2_stack : (Nat → Int32)) (p2_starts : (Nat → Int32)) (hp3 : Nat) (p3_count : Int32) (hp3_letters : Nat) (hp3_lengths : Nat) (hp3_bytes : Nat) (p3_letters : (Nat → Int32)) (p3_lengths : (Nat → Int32)) (p3_bytes : (Nat → Int32)) (p2_lengths : (Nat → Int32)) (o0 : (Nat → Int32)) (o1 : Int32) (o2 : Int32) (h : f_X6_writeFile N p0_size p0_overflowed p0_bytes p1_ram p1_original p2_size p2_depth p2_blocks p2_memory p2_stack p2_starts p3_count p3_letters p3_lengths p3_bytes p2_lengths = some (o0, o1, o2)) : MV l G E yX6_writeFile cX6_writeFile 4 w_rm_X6_writeFile [.ref hp0, .ref hp1, .ref hp2, .ref hp3] [(hp0, .inr (0, [.ref hp0_bytes, .int p0_size, .int p0_overflowed])), (hp0_bytes, .inl (E.1, 1200, .inl p0_bytes)), (hp1, .inr (4, [.int p1_ram, .int p1_end, .ref hp1_original])), (hp1_original, .inl (E.1, 512, .inl p1_original)), (hp2, .inr (1, [.ref hp2_memory, .int p2_size, .ref hp2_stack, .int p2_depth, .ref hp2_starts, .ref hp2_lengths, .int p2_blocks])), (hp2_memory, .inl (E.1, 512, .inl p2_memory)), (hp2_stack, .inl (E.1, 40, .inl p2_stack)), (hp2_starts, .inl (E.1, 8, .inl p2_starts)), (hp3, .inr (2, [.int p3_count, .ref hp3_letters, .ref hp3_lengths, .ref hp3_bytes])), (hp3_letters, .inl (E.1, 4, .inl p3_letters)), (hp3_lengths, .inl (E.1, 4, .inl p3_lengths)), (hp3_bytes, .inl (E.1, 240, .inl p3_bytes)), (hp2_lengths, .inl (E.1, 8, .inl p2_lengths))] (fun a => [(hp0, .inr (0, [.ref hp0_bytes, .int o1, .int o2])), (hp0_bytes, .inl (E.1, 1200, .inl o0)), (hp1, .inr (4, [.int p1_ram, .int p1_end, .ref hp1_original])), (hp1_original, .inl (E.1, 512, .inl p1_original)), (hp2, .inr (1, [.ref hp2_memory, .int p2_size, .ref hp2_stack, .int p2_depth, .ref hp2_starts, .ref hp2_lengths, .int p2_blocks])), (hp2_memory, .inl (E.1, 512, .inl p2_memory)), (hp2_stack, .inl (E.1, 40, .inl p2_stack)), (hp2_starts, .inl (E.1, 8, .inl p2_starts)), (hp3, .inr (2, [.int p3_count, .ref hp3_letters, .ref hp3_lengths, .ref hp3_bytes])), (hp3_letters, .inl (E.1, 4, .inl p3_letters)), (hp3_lengths, .inl (E.1, 4, .inl p3_lengths)), (hp3_bytes, .inl (E.1, 240, .inl p3_bytes)), (hp2_lengths, .inl (E.1, 8, .inl p2_lengths))]) 0 0 := by
  refine MV_of (by decide) (Nat.le_of_ble_eq_true rfl) ?_
  intro p e s m args below meth c A Q hx hb hml hown hin hts hK hA hP hD hS ret ls hl
  replace ret : ∀ (R : ((Nat → Int32) × Int32 × Int32)), R = (o0, o1, o2) → ∀ (H : Heap) (locs : List Loc) (pc : Nat) (ls : Array Slot) (a : Nat → Nat), va_P G vwCl [(hp0, .inr (0, [.ref hp0_bytes, .int R.2.1, .int R.2.2])), (hp0_bytes, .inl (E.1, 1200, .inl R.1)), (hp1, .inr (4, [.int p1_ram, .int p1_end, .ref hp1_original])), (hp1_original, .inl (E.1, 512, .inl p1_original)), (hp2, .inr (1, [.ref hp2_memory, .int p2_size, .ref hp2_stack, .int p2_depth, .ref hp2_starts, .ref hp2_lengths, .int p2_blocks])), (hp2_memory, .inl (E.1, 512, .inl p2_memory)), (hp2_stack, .inl (E.1, 40, .inl p2_stack)), (hp2_starts, .inl (E.1, 8, .inl p2_starts)), (hp3, .inr (2, [.int p3_count, .ref hp3_letters, .ref hp3_lengths, .ref hp3_bytes])), (hp3_letters, .inl (E.1, 4, .inl p3_letters)), (hp3_lengths, .inl (E.1, 4, .inl p3_lengths)), (hp3_bytes, .inl (E.1, 240, .inl p3_bytes)), (hp2_lengths, .inl (E.1, 8, .inl p2_lengths))] H → va_D A [(hp0, .inr (0, [.ref hp0_bytes, .int R.2.1, .int R.2.2])), (hp0_bytes, .inl (E.1, 1200, .inl R.1)), (hp1, .inr (4, [.int p1_ram, .int p1_end, .ref hp1_original])), (hp1_original, .inl (E.1, 512, .inl p1_original)), (hp2, .inr (1, [.ref hp2_memory, .int p2_size, .ref hp2_stack, .int p2_depth, .ref hp2_starts, .ref hp2_lengths, .int p2_blocks])), (hp2_memory, .inl (E.1, 512, .inl p2_memory)), (hp2_stack, .inl (E.1, 40, .inl p2_stack)), (hp2_starts, .inl (E.1, 8, .inl p2_starts)), (hp3, .inr (2, [.int p3_count, .ref hp3_letters, .ref hp3_lengths, .ref hp3_bytes])), (hp3_letters, .inl (E.1, 4, .inl p3_letters)), (hp3_lengths, .inl (E.1, 4, .inl p3_lengths)), (hp3_bytes, .inl (E.1, 240, .inl p3_bytes)), (hp2_lengths, .inl (E.1, 8, .inl p2_lengths))] → va_S A s.heap H locs → decode cX6_writeFile pc = .ok (.return_, 1) → W p l e w_rm_X6_writeFile s m args below meth c H locs 0 0 Q (F0 m pc ls []) := by
    intro R hR
    subst hR
    exact ret
  replace hl : lv_has ls 4 [(0, .ref hp0), (1, .ref hp1), (2, .ref hp2), (3, .ref hp3)] := hl
  unfold f_X6_writeFile at h
  refine lv_aload_n hx hb dX6_writeFile_0 rfl (lv_at hl 0 rfl) ?_
  refine lv_ldc hx hb hown (hts _ wd_a00a418b) dX6_writeFile_1 ?_
  obtain ⟨u1, hu1, h⟩ := bd_t h
  refine cVv (wr := [(hp1, .inr (4, [.int p1_ram, .int p1_end, .ref hp1_original])), (hp1_original, .inl (E.1, 512, .inl p1_original)), (hp2, .inr (1, [.ref hp2_memory, .int p2_size, .ref hp2_stack, .int p2_depth, .ref hp2_starts, .ref hp2_lengths, .int p2_blocks])), (hp2_memory, .inl (E.1, 512, .inl p2_memory)), (hp2_stack, .inl (E.1, 40, .inl p2_stack)), (hp2_starts, .inl (E.1, 8, .inl p2_starts)), (hp3, .inr (2, [.int p3_count, .ref hp3_letters, .ref hp3_lengths, .ref hp3_bytes])), (hp3_letters, .inl (E.1, 4, .inl p3_letters)), (hp3_lengths, .inl (E.1, 4, .inl p3_lengths)), (hp3_bytes, .inl (E.1, 240, .inl p3_bytes)), (hp2_lengths, .inl (E.1, 8, .inl p2_lengths))]) (As := [.int (1179603533 : Int32)]) (rest := []) ⟨hx, hb, hml, hown, hts⟩ (c_X0_addFour l G E N hp0 hp0_bytes p0_size p0_overflowed p0_bytes (1179603533 : Int32) u1.1 u1.2.1 u1.2.2 hu1) ok_X0_addFour okv_X0_addFour wd_9d46658a ⟨Nat.le_of_ble_eq_true rfl, Nat.le_of_ble_eq_true rfl⟩ hK hP hD hS hA [0, 1] [2, 3, 4, 5, 6, 7, 8, 9, 10, 11, 12] rfl rfl (by decide) (by decide) (by decide) (va_recv hK.1 hP (ci := 0) (q0 := 0) rfl rfl) rfl hl.1 rfl (Nat.le_of_ble_eq_true rfl) dX6_writeFile_3 ⟨Nat.le_of_ble_eq_true rfl, Nat.le_of_ble_eq_true rfl⟩ (fun H locs a2 hP hD hS => ?_)
  have hP : va_P G vwCl [(hp1, .inr (4, [.int p1_ram, .int p1_end, .ref hp1_original])), (hp1_original, .inl (E.1, 512, .inl p1_original)), (hp2, .inr (1, [.ref hp2_memory, .int p2_size, .ref hp2_stack, .int p2_depth, .ref hp2_starts, .ref hp2_lengths, .int p2_blocks])), (hp2_memory, .inl (E.1, 512, .inl p2_memory)), (hp2_stack, .inl (E.1, 40, .inl p2_stack)), (hp2_starts, .inl (E.1, 8, .inl p2_starts)), (hp3, .inr (2, [.int p3_count, .ref hp3_letters, .ref hp3_lengths, .ref hp3_bytes])), (hp3_letters, .inl (E.1, 4, .inl p3_letters)), (hp3_lengths, .inl (E.1, 4, .inl p3_lengths)), (hp3_bytes, .inl (E.1, 240, .inl p3_bytes)), (hp2_lengths, .inl (E.1, 8, .inl p2_lengths)), (hp0, .inr (0, [.ref hp0_bytes, .int u1.2.1, .int u1.2.2])), (hp0_bytes, .inl (E.1, 1200, .inl u1.1))] H := hP
  have hD : va_D A [(hp1, .inr (4, [.int p1_ram, .int p1_end, .ref hp1_original])), (hp1_original, .inl (E.1, 512, .inl p1_original)), (hp2, .inr (1, [.ref hp2_memory, .int p2_size, .ref hp2_stack, .int p2_depth, .ref hp2_starts, .ref hp2_lengths, .int p2_blocks])), (hp2_memory, .inl (E.1, 512, .inl p2_memory)), (hp2_stack, .inl (E.1, 40, .inl p2_stack)), (hp2_starts, .inl (E.1, 8, .inl p2_starts)), (hp3, .inr (2, [.int p3_count, .ref hp3_letters, .ref hp3_lengths, .ref hp3_bytes])), (hp3_letters, .inl (E.1, 4, .inl p3_letters)), (hp3_lengths, .inl (E.1, 4, .inl p3_lengths)), (hp3_bytes, .inl (E.1, 240, .inl p3_bytes)), (hp2_lengths, .inl (E.1, 8, .inl p2_lengths)), (hp0, .inr (0, [.ref hp0_bytes, .int u1.2.1, .int u1.2.2])), (hp0_bytes, .inl (E.1, 1200, .inl u1.1))] := hD
  refine lv_aload_n hx hb dX6_writeFile_6 rfl (lv_at hl 0 rfl) ?_
  refine lv_iconst (v := 0) hx hb dX6_writeFile_7 (by decide) ?_
  obtain ⟨u3, hu3, h⟩ := bd_t h
  refine cVv (wr := [(hp1, .inr (4, [.int p1_ram, .int p1_end, .ref hp1_original])), (hp1_original, .inl (E.1, 512, .inl p1_original)), (hp2, .inr (1, [.ref hp2_memory, .int p2_size, .ref hp2_stack, .int p2_depth, .ref hp2_starts, .ref hp2_lengths, .int p2_blocks])), (hp2_memory, .inl (E.1, 512, .inl p2_memory)), (hp2_stack, .inl (E.1, 40, .inl p2_stack)), (hp2_starts, .inl (E.1, 8, .inl p2_starts)), (hp3, .inr (2, [.int p3_count, .ref hp3_letters, .ref hp3_lengths, .ref hp3_bytes])), (hp3_letters, .inl (E.1, 4, .inl p3_letters)), (hp3_lengths, .inl (E.1, 4, .inl p3_lengths)), (hp3_bytes, .inl (E.1, 240, .inl p3_bytes)), (hp2_lengths, .inl (E.1, 8, .inl p2_lengths))]) (As := [.int (0 : Int32)]) (rest := []) ⟨hx, hb, hml, hown, hts⟩ (c_X0_addFour l G E N hp0 hp0_bytes u1.2.1 u1.2.2 u1.1 (0 : Int32) u3.1 u3.2.1 u3.2.2 hu3) ok_X0_addFour okv_X0_addFour wd_9d46658a ⟨Nat.le_of_ble_eq_true rfl, Nat.le_of_ble_eq_true rfl⟩ hK hP hD hS hA [11, 12] [0, 1, 2, 3, 4, 5, 6, 7, 8, 9, 10] rfl rfl (by decide) (by decide) (by decide) (va_recv hK.1 hP (ci := 0) (q0 := 11) rfl rfl) rfl hl.1 rfl (Nat.le_of_ble_eq_true rfl) dX6_writeFile_8 ⟨Nat.le_of_ble_eq_true rfl, Nat.le_of_ble_eq_true rfl⟩ (fun H locs a4 hP hD hS => ?_)
  have hP : va_P G vwCl [(hp1, .inr (4, [.int p1_ram, .int p1_end, .ref hp1_original])), (hp1_original, .inl (E.1, 512, .inl p1_original)), (hp2, .inr (1, [.ref hp2_memory, .int p2_size, .ref hp2_stack, .int p2_depth, .ref hp2_starts, .ref hp2_lengths, .int p2_blocks])), (hp2_memory, .inl (E.1, 512, .inl p2_memory)), (hp2_stack, .inl (E.1, 40, .inl p2_stack)), (hp2_starts, .inl (E.1, 8, .inl p2_starts)), (hp3, .inr (2, [.int p3_count, .ref hp3_letters, .ref hp3_lengths, .ref hp3_bytes])), (hp3_letters, .inl (E.1, 4, .inl p3_letters)), (hp3_lengths, .inl (E.1, 4, .inl p3_lengths)), (hp3_bytes, .inl (E.1, 240, .inl p3_bytes)), (hp2_lengths, .inl (E.1, 8, .inl p2_lengths)), (hp0, .inr (0, [.ref hp0_bytes, .int u3.2.1, .int u3.2.2])), (hp0_bytes, .inl (E.1, 1200, .inl u3.1))] H := hP
  have hD : va_D A [(hp1, .inr (4, [.int p1_ram, .int p1_end, .ref hp1_original])), (hp1_original, .inl (E.1, 512, .inl p1_original)), (hp2, .inr (1, [.ref hp2_memory, .int p2_size, .ref hp2_stack, .int p2_depth, .ref hp2_starts, .ref hp2_lengths, .int p2_blocks])), (hp2_memory, .inl (E.1, 512, .inl p2_memory)), (hp2_stack, .inl (E.1, 40, .inl p2_stack)), (hp2_starts, .inl (E.1, 8, .inl p2_starts)), (hp3, .inr (2, [.int p3_count, .ref hp3_letters, .ref hp3_lengths, .ref hp3_bytes])), (hp3_letters, .inl (E.1, 4, .inl p3_letters)), (hp3_lengths, .inl (E.1, 4, .inl p3_lengths)), (hp3_bytes, .inl (E.1, 240, .inl p3_bytes)), (hp2_lengths, .inl (E.1, 8, .inl p2_lengths)), (hp0, .inr (0, [.ref hp0_bytes, .int u3.2.1, .int u3.2.2])), (hp0_bytes, .inl (E.1, 1200, .inl u3.1))] := hD
  refine lv_aload_n hx hb dX6_writeFile_11 rfl (lv_at hl 0 rfl) ?_
  refine lv_ldc hx hb hown (hts _ wd_5d9fa258) dX6_writeFile_12 ?_
  obtain ⟨u5, hu5, h⟩ := bd_t h
  refine cVv (wr := [(hp1, .inr (4, [.int p1_ram, .int p1_end, .ref hp1_original])), (hp1_original, .inl (E.1, 512, .inl p1_original)), (hp2, .inr (1, [.ref hp2_memory, .int p2_size, .ref hp2_stack, .int p2_depth, .ref hp2_starts, .ref hp2_lengths, .int p2_blocks])), (hp2_memory, .inl (E.1, 512, .inl p2_memory)), (hp2_stack, .inl (E.1, 40, .inl p2_stack)), (hp2_starts, .inl (E.1, 8, .inl p2_starts)), (hp3, .inr (2, [.int p3_count, .ref hp3_letters, .ref hp3_lengths, .ref hp3_bytes])), (hp3_letters, .inl (E.1, 4, .inl p3_letters)), (hp3_lengths, .inl (E.1, 4, .inl p3_lengths)), (hp3_bytes, .inl (E.1, 240, .inl p3_bytes)), (hp2_lengths, .inl (E.1, 8, .inl p2_lengths))]) (As := [.int (1229347411 : Int32)]) (rest := []) ⟨hx, hb, hml, hown, hts⟩ (c_X0_addFour l G E N hp0 hp0_bytes u3.2.1 u3.2.2 u3.1 (1229347411 : Int32) u5.1 u5.2.1 u5.2.2 hu5) ok_X0_addFour okv_X0_addFour wd_9d46658a ⟨Nat.le_of_ble_eq_true rfl, Nat.le_of_ble_eq_true rfl⟩ hK hP hD hS hA [11, 12] [0, 1, 2, 3, 4, 5, 6, 7, 8, 9, 10] rfl rfl (by decide) (by decide) (by decide) (va_recv hK.1 hP (ci := 0) (q0 := 11) rfl rfl) rfl hl.1 rfl (Nat.le_of_ble_eq_true rfl) dX6_writeFile_14 ⟨Nat.le_of_ble_eq_true rfl, Nat.le_of_ble_eq_true rfl⟩ (fun H locs a6 hP hD hS => ?_)
  have hP : va_P G vwCl [(hp1, .inr (4, [.int p1_ram, .int p1_end, .ref hp1_original])), (hp1_original, .inl (E.1, 512, .inl p1_original)), (hp2, .inr (1, [.ref hp2_memory, .int p2_size, .ref hp2_stack, .int p2_depth, .ref hp2_starts, .ref hp2_lengths, .int p2_blocks])), (hp2_memory, .inl (E.1, 512, .inl p2_memory)), (hp2_stack, .inl (E.1, 40, .inl p2_stack)), (hp2_starts, .inl (E.1, 8, .inl p2_starts)), (hp3, .inr (2, [.int p3_count, .ref hp3_letters, .ref hp3_lengths, .ref hp3_bytes])), (hp3_letters, .inl (E.1, 4, .inl p3_letters)), (hp3_lengths, .inl (E.1, 4, .inl p3_lengths)), (hp3_bytes, .inl (E.1, 240, .inl p3_bytes)), (hp2_lengths, .inl (E.1, 8, .inl p2_lengths)), (hp0, .inr (0, [.ref hp0_bytes, .int u5.2.1, .int u5.2.2])), (hp0_bytes, .inl (E.1, 1200, .inl u5.1))] H := hP
  have hD : va_D A [(hp1, .inr (4, [.int p1_ram, .int p1_end, .ref hp1_original])), (hp1_original, .inl (E.1, 512, .inl p1_original)), (hp2, .inr (1, [.ref hp2_memory, .int p2_size, .ref hp2_stack, .int p2_depth, .ref hp2_starts, .ref hp2_lengths, .int p2_blocks])), (hp2_memory, .inl (E.1, 512, .inl p2_memory)), (hp2_stack, .inl (E.1, 40, .inl p2_stack)), (hp2_starts, .inl (E.1, 8, .inl p2_starts)), (hp3, .inr (2, [.int p3_count, .ref hp3_letters, .ref hp3_lengths, .ref hp3_bytes])), (hp3_letters, .inl (E.1, 4, .inl p3_letters)), (hp3_lengths, .inl (E.1, 4, .inl p3_lengths)), (hp3_bytes, .inl (E.1, 240, .inl p3_bytes)), (hp2_lengths, .inl (E.1, 8, .inl p2_lengths)), (hp0, .inr (0, [.ref hp0_bytes, .int u5.2.1, .int u5.2.2])), (hp0_bytes, .inl (E.1, 1200, .inl u5.1))] := hD
  refine lv_aload_n hx hb dX6_writeFile_17 rfl (lv_at hl 0 rfl) ?_
  refine lv_aload_n hx hb dX6_writeFile_18 rfl (lv_at hl 1 rfl) ?_
  obtain ⟨u7, hu7, h⟩ := bd_t h
  refine cSv (wr := [(hp2, .inr (1, [.ref hp2_memory, .int p2_size, .ref hp2_stack, .int p2_depth, .ref hp2_starts, .ref hp2_lengths, .int p2_blocks])), (hp2_memory, .inl (E.1, 512, .inl p2_memory)), (hp2_stack, .inl (E.1, 40, .inl p2_stack)), (hp2_starts, .inl (E.1, 8, .inl p2_starts)), (hp3, .inr (2, [.int p3_count, .ref hp3_letters, .ref hp3_lengths, .ref hp3_bytes])), (hp3_letters, .inl (E.1, 4, .inl p3_letters)), (hp3_lengths, .inl (E.1, 4, .inl p3_lengths)), (hp3_bytes, .inl (E.1, 240, .inl p3_bytes)), (hp2_lengths, .inl (E.1, 8, .inl p2_lengths))]) (As := [.ref hp0, .ref hp1]) (rest := []) ⟨hx, hb, hml, hown, hts⟩ (c_X6_writeHead l G E N hp0 hp0_bytes u5.2.1 u5.2.2 u5.1 hp1 p1_ram p1_end hp1_original p1_original u7.1 u7.2.1 u7.2.2 hu7) ok_X6_writeHead oks_X6_writeHead wd_4a5927d9 ⟨Nat.le_of_ble_eq_true rfl, Nat.le_of_ble_eq_true rfl⟩ hK hP hD hS hA [11, 12, 0, 1] [2, 3, 4, 5, 6, 7, 8, 9, 10] rfl rfl (by decide) (by decide) (by decide) rfl hl.1 rfl (Nat.le_of_ble_eq_true rfl) dX6_writeFile_19 ⟨Nat.le_of_ble_eq_true rfl, Nat.le_of_ble_eq_true rfl⟩ (fun H locs a8 hP hD hS => ?_)
  have hP : va_P G vwCl [(hp2, .inr (1, [.ref hp2_memory, .int p2_size, .ref hp2_stack, .int p2_depth, .ref hp2_starts, .ref hp2_lengths, .int p2_blocks])), (hp2_memory, .inl (E.1, 512, .inl p2_memory)), (hp2_stack, .inl (E.1, 40, .inl p2_stack)), (hp2_starts, .inl (E.1, 8, .inl p2_starts)), (hp3, .inr (2, [.int p3_count, .ref hp3_letters, .ref hp3_lengths, .ref hp3_bytes])), (hp3_letters, .inl (E.1, 4, .inl p3_letters)), (hp3_lengths, .inl (E.1, 4, .inl p3_lengths)), (hp3_bytes, .inl (E.1, 240, .inl p3_bytes)), (hp2_lengths, .inl (E.1, 8, .inl p2_lengths)), (hp0, .inr (0, [.ref hp0_bytes, .int u7.2.1, .int u7.2.2])), (hp0_bytes, .inl (E.1, 1200, .inl u7.1)), (hp1, .inr (4, [.int p1_ram, .int p1_end, .ref hp1_original])), (hp1_original, .inl (E.1, 512, .inl p1_original))] H := hP
  have hD : va_D A [(hp2, .inr (1, [.ref hp2_memory, .int p2_size, .ref hp2_stack, .int p2_depth, .ref hp2_starts, .ref hp2_lengths, .int p2_blocks])), (hp2_memory, .inl (E.1, 512, .inl p2_memory)), (hp2_stack, .inl (E.1, 40, .inl p2_stack)), (hp2_starts, .inl (E.1, 8, .inl p2_starts)), (hp3, .inr (2, [.int p3_count, .ref hp3_letters, .ref hp3_lengths, .ref hp3_bytes])), (hp3_letters, .inl (E.1, 4, .inl p3_letters)), (hp3_lengths, .inl (E.1, 4, .inl p3_lengths)), (hp3_bytes, .inl (E.1, 240, .inl p3_bytes)), (hp2_lengths, .inl (E.1, 8, .inl p2_lengths)), (hp0, .inr (0, [.ref hp0_bytes, .int u7.2.1, .int u7.2.2])), (hp0_bytes, .inl (E.1, 1200, .inl u7.1)), (hp1, .inr (4, [.int p1_ram, .int p1_end, .ref hp1_original])), (hp1_original, .inl (E.1, 512, .inl p1_original))] := hD
  refine lv_aload_n hx hb dX6_writeFile_22 rfl (lv_at hl 0 rfl) ?_
  refine lv_aload_n hx hb dX6_writeFile_23 rfl (lv_at hl 1 rfl) ?_
  refine lv_aload_n hx hb dX6_writeFile_24 rfl (lv_at hl 2 rfl) ?_
  obtain ⟨u9, hu9, h⟩ := bd_t h
  refine cSv (wr := [(hp2_stack, .inl (E.1, 40, .inl p2_stack)), (hp2_starts, .inl (E.1, 8, .inl p2_starts)), (hp3, .inr (2, [.int p3_count, .ref hp3_letters, .ref hp3_lengths, .ref hp3_bytes])), (hp3_letters, .inl (E.1, 4, .inl p3_letters)), (hp3_lengths, .inl (E.1, 4, .inl p3_lengths)), (hp3_bytes, .inl (E.1, 240, .inl p3_bytes)), (hp2_lengths, .inl (E.1, 8, .inl p2_lengths))]) (As := [.ref hp0, .ref hp1, .ref hp2]) (rest := []) ⟨hx, hb, hml, hown, hts⟩ (c_X6_writeMemory l G E N hp0 hp0_bytes u7.2.1 u7.2.2 u7.1 hp2 hp2_memory p2_size hp2_stack p2_depth hp2_starts hp2_lengths p2_blocks hp1 p1_ram p1_end hp1_original p2_memory p1_original u9.1 u9.2.1 u9.2.2 hu9) ok_X6_writeMemory oks_X6_writeMemory wd_95c7f734 ⟨Nat.le_of_ble_eq_true rfl, Nat.le_of_ble_eq_true rfl⟩ hK hP hD hS hA [9, 10, 0, 11, 1, 12] [2, 3, 4, 5, 6, 7, 8] rfl rfl (by decide) (by decide) (by decide) rfl hl.1 rfl (Nat.le_of_ble_eq_true rfl) dX6_writeFile_25 ⟨Nat.le_of_ble_eq_true rfl, Nat.le_of_ble_eq_true rfl⟩ (fun H locs a10 hP hD hS => ?_)
  have hP : va_P G vwCl [(hp2_stack, .inl (E.1, 40, .inl p2_stack)), (hp2_starts, .inl (E.1, 8, .inl p2_starts)), (hp3, .inr (2, [.int p3_count, .ref hp3_letters, .ref hp3_lengths, .ref hp3_bytes])), (hp3_letters, .inl (E.1, 4, .inl p3_letters)), (hp3_lengths, .inl (E.1, 4, .inl p3_lengths)), (hp3_bytes, .inl (E.1, 240, .inl p3_bytes)), (hp2_lengths, .inl (E.1, 8, .inl p2_lengths)), (hp0, .inr (0, [.ref hp0_bytes, .int u9.2.1, .int u9.2.2])), (hp0_bytes, .inl (E.1, 1200, .inl u9.1)), (hp2, .inr (1, [.ref hp2_memory, .int p2_size, .ref hp2_stack, .int p2_depth, .ref hp2_starts, .ref hp2_lengths, .int p2_blocks])), (hp1, .inr (4, [.int p1_ram, .int p1_end, .ref hp1_original])), (hp2_memory, .inl (E.1, 512, .inl p2_memory)), (hp1_original, .inl (E.1, 512, .inl p1_original))] H := hP
  have hD : va_D A [(hp2_stack, .inl (E.1, 40, .inl p2_stack)), (hp2_starts, .inl (E.1, 8, .inl p2_starts)), (hp3, .inr (2, [.int p3_count, .ref hp3_letters, .ref hp3_lengths, .ref hp3_bytes])), (hp3_letters, .inl (E.1, 4, .inl p3_letters)), (hp3_lengths, .inl (E.1, 4, .inl p3_lengths)), (hp3_bytes, .inl (E.1, 240, .inl p3_bytes)), (hp2_lengths, .inl (E.1, 8, .inl p2_lengths)), (hp0, .inr (0, [.ref hp0_bytes, .int u9.2.1, .int u9.2.2])), (hp0_bytes, .inl (E.1, 1200, .inl u9.1)), (hp2, .inr (1, [.ref hp2_memory, .int p2_size, .ref hp2_stack, .int p2_depth, .ref hp2_starts, .ref hp2_lengths, .int p2_blocks])), (hp1, .inr (4, [.int p1_ram, .int p1_end, .ref hp1_original])), (hp2_memory, .inl (E.1, 512, .inl p2_memory)), (hp1_original, .inl (E.1, 512, .inl p1_original))] := hD
  refine lv_aload_n hx hb dX6_writeFile_28 rfl (lv_at hl 0 rfl) ?_
  refine lv_aload_n hx hb dX6_writeFile_29 rfl (lv_at hl 2 rfl) ?_
  obtain ⟨u11, hu11, h⟩ := bd_t h
  refine cSv (wr := [(hp2_starts, .inl (E.1, 8, .inl p2_starts)), (hp3, .inr (2, [.int p3_count, .ref hp3_letters, .ref hp3_lengths, .ref hp3_bytes])), (hp3_letters, .inl (E.1, 4, .inl p3_letters)), (hp3_lengths, .inl (E.1, 4, .inl p3_lengths)), (hp3_bytes, .inl (E.1, 240, .inl p3_bytes)), (hp2_lengths, .inl (E.1, 8, .inl p2_lengths)), (hp1, .inr (4, [.int p1_ram, .int p1_end, .ref hp1_original])), (hp2_memory, .inl (E.1, 512, .inl p2_memory)), (hp1_original, .inl (E.1, 512, .inl p1_original))]) (As := [.ref hp0, .ref hp2]) (rest := []) ⟨hx, hb, hml, hown, hts⟩ (c_X6_writeStack l G E N hp0 hp0_bytes u9.2.1 u9.2.2 u9.1 hp2 hp2_memory p2_size hp2_stack p2_depth hp2_starts hp2_lengths p2_blocks p2_stack u11.1 u11.2.1 u11.2.2 hu11) ok_X6_writeStack oks_X6_writeStack wd_4a4486fd ⟨Nat.le_of_ble_eq_true rfl, Nat.le_of_ble_eq_true rfl⟩ hK hP hD hS hA [7, 8, 9, 0] [1, 2, 3, 4, 5, 6, 10, 11, 12] rfl rfl (by decide) (by decide) (by decide) rfl hl.1 rfl (Nat.le_of_ble_eq_true rfl) dX6_writeFile_30 ⟨Nat.le_of_ble_eq_true rfl, Nat.le_of_ble_eq_true rfl⟩ (fun H locs a12 hP hD hS => ?_)
  have hP : va_P G vwCl [(hp2_starts, .inl (E.1, 8, .inl p2_starts)), (hp3, .inr (2, [.int p3_count, .ref hp3_letters, .ref hp3_lengths, .ref hp3_bytes])), (hp3_letters, .inl (E.1, 4, .inl p3_letters)), (hp3_lengths, .inl (E.1, 4, .inl p3_lengths)), (hp3_bytes, .inl (E.1, 240, .inl p3_bytes)), (hp2_lengths, .inl (E.1, 8, .inl p2_lengths)), (hp1, .inr (4, [.int p1_ram, .int p1_end, .ref hp1_original])), (hp2_memory, .inl (E.1, 512, .inl p2_memory)), (hp1_original, .inl (E.1, 512, .inl p1_original)), (hp0, .inr (0, [.ref hp0_bytes, .int u11.2.1, .int u11.2.2])), (hp0_bytes, .inl (E.1, 1200, .inl u11.1)), (hp2, .inr (1, [.ref hp2_memory, .int p2_size, .ref hp2_stack, .int p2_depth, .ref hp2_starts, .ref hp2_lengths, .int p2_blocks])), (hp2_stack, .inl (E.1, 40, .inl p2_stack))] H := hP
  have hD : va_D A [(hp2_starts, .inl (E.1, 8, .inl p2_starts)), (hp3, .inr (2, [.int p3_count, .ref hp3_letters, .ref hp3_lengths, .ref hp3_bytes])), (hp3_letters, .inl (E.1, 4, .inl p3_letters)), (hp3_lengths, .inl (E.1, 4, .inl p3_lengths)), (hp3_bytes, .inl (E.1, 240, .inl p3_bytes)), (hp2_lengths, .inl (E.1, 8, .inl p2_lengths)), (hp1, .inr (4, [.int p1_ram, .int p1_end, .ref hp1_original])), (hp2_memory, .inl (E.1, 512, .inl p2_memory)), (hp1_original, .inl (E.1, 512, .inl p1_original)), (hp0, .inr (0, [.ref hp0_bytes, .int u11.2.1, .int u11.2.2])), (hp0_bytes, .inl (E.1, 1200, .inl u11.1)), (hp2, .inr (1, [.ref hp2_memory, .int p2_size, .ref hp2_stack, .int p2_depth, .ref hp2_starts, .ref hp2_lengths, .int p2_blocks])), (hp2_stack, .inl (E.1, 40, .inl p2_stack))] := hD
  refine lv_aload_n hx hb dX6_writeFile_33 rfl (lv_at hl 2 rfl) ?_
  refine getF (D := G) (ci := 1) (v := .int p2_blocks) (C := RX1) (T := TX1) (N := 7) hx hb hts inG_X1 hown hK.1 hP 11 rfl rfl 6 (by decide) tf_X1_6 (hts _ wd_f1f06e18) rfl dX6_writeFile_34 ?_
  have hJ45 : ∀ (y14 : (Nat → Int32)) (y15 : Int32) (y16 : Int32), J_X6_writeFile_45 N p3_count p3_letters p3_lengths p3_bytes y14 y15 y16 = some (o0, o1, o2) → ∀ (H : Heap) (locs : List Loc) (ls : Array Slot), va_P G vwCl [(hp2_starts, .inl (E.1, 8, .inl p2_starts)), (hp3, .inr (2, [.int p3_count, .ref hp3_letters, .ref hp3_lengths, .ref hp3_bytes])), (hp3_letters, .inl (E.1, 4, .inl p3_letters)), (hp3_lengths, .inl (E.1, 4, .inl p3_lengths)), (hp3_bytes, .inl (E.1, 240, .inl p3_bytes)), (hp2_lengths, .inl (E.1, 8, .inl p2_lengths)), (hp1, .inr (4, [.int p1_ram, .int p1_end, .ref hp1_original])), (hp2_memory, .inl (E.1, 512, .inl p2_memory)), (hp1_original, .inl (E.1, 512, .inl p1_original)), (hp0, .inr (0, [.ref hp0_bytes, .int y15, .int y16])), (hp0_bytes, .inl (E.1, 1200, .inl y14)), (hp2, .inr (1, [.ref hp2_memory, .int p2_size, .ref hp2_stack, .int p2_depth, .ref hp2_starts, .ref hp2_lengths, .int p2_blocks])), (hp2_stack, .inl (E.1, 40, .inl p2_stack))] H → va_D A [(hp2_starts, .inl (E.1, 8, .inl p2_starts)), (hp3, .inr (2, [.int p3_count, .ref hp3_letters, .ref hp3_lengths, .ref hp3_bytes])), (hp3_letters, .inl (E.1, 4, .inl p3_letters)), (hp3_lengths, .inl (E.1, 4, .inl p3_lengths)), (hp3_bytes, .inl (E.1, 240, .inl p3_bytes)), (hp2_lengths, .inl (E.1, 8, .inl p2_lengths)), (hp1, .inr (4, [.int p1_ram, .int p1_end, .ref hp1_original])), (hp2_memory, .inl (E.1, 512, .inl p2_memory)), (hp1_original, .inl (E.1, 512, .inl p1_original)), (hp0, .inr (0, [.ref hp0_bytes, .int y15, .int y16])), (hp0_bytes, .inl (E.1, 1200, .inl y14)), (hp2, .inr (1, [.ref hp2_memory, .int p2_size, .ref hp2_stack, .int p2_depth, .ref hp2_starts, .ref hp2_lengths, .int p2_blocks])), (hp2_stack, .inl (E.1, 40, .inl p2_stack))] → va_S A s.heap H locs → lv_has ls 4 [(0, .ref hp0), (3, .ref hp3)] → W p l e w_rm_X6_writeFile s m args below meth c H locs 0 0 Q (F0 m 45 ls []) := by
    intro y14 y15 y16 h H locs ls hP hD hS hl
    unfold J_X6_writeFile_45 at h
    refine lv_aload_n hx hb dX6_writeFile_45 rfl (lv_at hl 0 rfl) ?_
    refine lv_aload_n hx hb dX6_writeFile_46 rfl (lv_at hl 1 rfl) ?_
    obtain ⟨u17, hu17, h⟩ := bd_t h
    refine cSv (wr := [(hp2_starts, .inl (E.1, 8, .inl p2_starts)), (hp2_lengths, .inl (E.1, 8, .inl p2_lengths)), (hp1, .inr (4, [.int p1_ram, .int p1_end, .ref hp1_original])), (hp2_memory, .inl (E.1, 512, .inl p2_memory)), (hp1_original, .inl (E.1, 512, .inl p1_original)), (hp2, .inr (1, [.ref hp2_memory, .int p2_size, .ref hp2_stack, .int p2_depth, .ref hp2_starts, .ref hp2_lengths, .int p2_blocks])), (hp2_stack, .inl (E.1, 40, .inl p2_stack))]) (As := [.ref hp0, .ref hp3]) (rest := []) ⟨hx, hb, hml, hown, hts⟩ (c_X6_writeOthers l G E N hp3 p3_count hp3_letters hp3_lengths hp3_bytes p3_letters hp0 hp0_bytes y15 y16 y14 p3_lengths p3_bytes u17.1 u17.2.1 u17.2.2 hu17) ok_X6_writeOthers oks_X6_writeOthers wd_2ff158d6 ⟨Nat.le_of_ble_eq_true rfl, Nat.le_of_ble_eq_true rfl⟩ hK hP hD hS hA [1, 2, 9, 10, 3, 4] [0, 5, 6, 7, 8, 11, 12] rfl rfl (by decide) (by decide) (by decide) rfl hl.1 rfl (Nat.le_of_ble_eq_true rfl) dX6_writeFile_47 ⟨Nat.le_of_ble_eq_true rfl, Nat.le_of_ble_eq_true rfl⟩ (fun H locs a18 hP hD hS => ?_)
    have hP : va_P G vwCl [(hp2_starts, .inl (E.1, 8, .inl p2_starts)), (hp2_lengths, .inl (E.1, 8, .inl p2_lengths)), (hp1, .inr (4, [.int p1_ram, .int p1_end, .ref hp1_original])), (hp2_memory, .inl (E.1, 512, .inl p2_memory)), (hp1_original, .inl (E.1, 512, .inl p1_original)), (hp2, .inr (1, [.ref hp2_memory, .int p2_size, .ref hp2_stack, .int p2_depth, .ref hp2_starts, .ref hp2_lengths, .int p2_blocks])), (hp2_stack, .inl (E.1, 40, .inl p2_stack)), (hp3, .inr (2, [.int p3_count, .ref hp3_letters, .ref hp3_lengths, .ref hp3_bytes])), (hp3_letters, .inl (E.1, 4, .inl p3_letters)), (hp0, .inr (0, [.ref hp0_bytes, .int u17.2.1, .int u17.2.2])), (hp0_bytes, .inl (E.1, 1200, .inl u17.1)), (hp3_lengths, .inl (E.1, 4, .inl p3_lengths)), (hp3_bytes, .inl (E.1, 240, .inl p3_bytes))] H := hP
    have hD : va_D A [(hp2_starts, .inl (E.1, 8, .inl p2_starts)), (hp2_lengths, .inl (E.1, 8, .inl p2_lengths)), (hp1, .inr (4, [.int p1_ram, .int p1_end, .ref hp1_original])), (hp2_memory, .inl (E.1, 512, .inl p2_memory)), (hp1_original, .inl (E.1, 512, .inl p1_original)), (hp2, .inr (1, [.ref hp2_memory, .int p2_size, .ref hp2_stack, .int p2_depth, .ref hp2_starts, .ref hp2_lengths, .int p2_blocks])), (hp2_stack, .inl (E.1, 40, .inl p2_stack)), (hp3, .inr (2, [.int p3_count, .ref hp3_letters, .ref hp3_lengths, .ref hp3_bytes])), (hp3_letters, .inl (E.1, 4, .inl p3_letters)), (hp0, .inr (0, [.ref hp0_bytes, .int u17.2.1, .int u17.2.2])), (hp0_bytes, .inl (E.1, 1200, .inl u17.1)), (hp3_lengths, .inl (E.1, 4, .inl p3_lengths)), (hp3_bytes, .inl (E.1, 240, .inl p3_bytes))] := hD
    refine lv_aload_n hx hb dX6_writeFile_50 rfl (lv_at hl 0 rfl) ?_
    refine lv_iconst (v := 4) hx hb dX6_writeFile_51 (by decide) ?_
    refine lv_aload_n hx hb dX6_writeFile_52 rfl (lv_at hl 0 rfl) ?_
    refine getF (D := G) (ci := 0) (v := .int u17.2.1) (C := RX0) (T := TX0) (N := 3) hx hb hts inG_X0 hown hK.1 hP 9 rfl rfl 1 (by decide) tf_X0_1 (hts _ wd_b1109c57) rfl dX6_writeFile_53 ?_
    refine lv_bipush (v := 8) hx hb dX6_writeFile_56 (by decide) ?_
    refine lv_isub hx hb dX6_writeFile_58 ?_
    obtain ⟨u19, hu19, h⟩ := bd_t h
    refine cVv (wr := [(hp2_starts, .inl (E.1, 8, .inl p2_starts)), (hp2_lengths, .inl (E.1, 8, .inl p2_lengths)), (hp1, .inr (4, [.int p1_ram, .int p1_end, .ref hp1_original])), (hp2_memory, .inl (E.1, 512, .inl p2_memory)), (hp1_original, .inl (E.1, 512, .inl p1_original)), (hp2, .inr (1, [.ref hp2_memory, .int p2_size, .ref hp2_stack, .int p2_depth, .ref hp2_starts, .ref hp2_lengths, .int p2_blocks])), (hp2_stack, .inl (E.1, 40, .inl p2_stack)), (hp3, .inr (2, [.int p3_count, .ref hp3_letters, .ref hp3_lengths, .ref hp3_bytes])), (hp3_letters, .inl (E.1, 4, .inl p3_letters)), (hp3_lengths, .inl (E.1, 4, .inl p3_lengths)), (hp3_bytes, .inl (E.1, 240, .inl p3_bytes))]) (As := [.int (4 : Int32), .int (u17.2.1 - (8 : Int32))]) (rest := []) ⟨hx, hb, hml, hown, hts⟩ (c_X0_setFour l G E N hp0 hp0_bytes u17.2.1 u17.2.2 u17.1 (4 : Int32) (u17.2.1 - (8 : Int32)) u19 hu19) ok_X0_setFour okv_X0_setFour wd_dda7648f ⟨Nat.le_of_ble_eq_true rfl, Nat.le_of_ble_eq_true rfl⟩ hK hP hD hS hA [9, 10] [0, 1, 2, 3, 4, 5, 6, 7, 8, 11, 12] rfl rfl (by decide) (by decide) (by decide) (va_recv hK.1 hP (ci := 0) (q0 := 9) rfl rfl) rfl hl.1 rfl (Nat.le_of_ble_eq_true rfl) dX6_writeFile_59 ⟨Nat.le_of_ble_eq_true rfl, Nat.le_of_ble_eq_true rfl⟩ (fun H locs a20 hP hD hS => ?_)
    have hP : va_P G vwCl [(hp2_starts, .inl (E.1, 8, .inl p2_starts)), (hp2_lengths, .inl (E.1, 8, .inl p2_lengths)), (hp1, .inr (4, [.int p1_ram, .int p1_end, .ref hp1_original])), (hp2_memory, .inl (E.1, 512, .inl p2_memory)), (hp1_original, .inl (E.1, 512, .inl p1_original)), (hp2, .inr (1, [.ref hp2_memory, .int p2_size, .ref hp2_stack, .int p2_depth, .ref hp2_starts, .ref hp2_lengths, .int p2_blocks])), (hp2_stack, .inl (E.1, 40, .inl p2_stack)), (hp3, .inr (2, [.int p3_count, .ref hp3_letters, .ref hp3_lengths, .ref hp3_bytes])), (hp3_letters, .inl (E.1, 4, .inl p3_letters)), (hp3_lengths, .inl (E.1, 4, .inl p3_lengths)), (hp3_bytes, .inl (E.1, 240, .inl p3_bytes)), (hp0, .inr (0, [.ref hp0_bytes, .int u17.2.1, .int u17.2.2])), (hp0_bytes, .inl (E.1, 1200, .inl u19))] H := hP
    have hD : va_D A [(hp2_starts, .inl (E.1, 8, .inl p2_starts)), (hp2_lengths, .inl (E.1, 8, .inl p2_lengths)), (hp1, .inr (4, [.int p1_ram, .int p1_end, .ref hp1_original])), (hp2_memory, .inl (E.1, 512, .inl p2_memory)), (hp1_original, .inl (E.1, 512, .inl p1_original)), (hp2, .inr (1, [.ref hp2_memory, .int p2_size, .ref hp2_stack, .int p2_depth, .ref hp2_starts, .ref hp2_lengths, .int p2_blocks])), (hp2_stack, .inl (E.1, 40, .inl p2_stack)), (hp3, .inr (2, [.int p3_count, .ref hp3_letters, .ref hp3_lengths, .ref hp3_bytes])), (hp3_letters, .inl (E.1, 4, .inl p3_letters)), (hp3_lengths, .inl (E.1, 4, .inl p3_lengths)), (hp3_bytes, .inl (E.1, 240, .inl p3_bytes)), (hp0, .inr (0, [.ref hp0_bytes, .int u17.2.1, .int u17.2.2])), (hp0_bytes, .inl (E.1, 1200, .inl u19))] := hD
    exact ret (u19, u17.2.1, u17.2.2) (Option.some.inj h) _ _ _ _ (fun _ => 0) (hP.sub [11, 12, 2, 4, 5, 3, 6, 0, 7, 8, 9, 10, 1] rfl) (hD.sub [11, 12, 2, 4, 5, 3, 6, 0, 7, 8, 9, 10, 1] (by decide) rfl) hS dX6_writeFile_62
  refine lv_if_le (tgt := 45) hx hb dX6_writeFile_37 (by decide) (fun c13 => ?_) (fun c13 => ?_)
  · replace h := if_t h c13
    exact hJ45 u11.1 u11.2.1 u11.2.2 h _ _ _ hP hD hS (lv_sub hl [0, 3] rfl)
  · replace h := if_f h c13
    refine lv_aload_n hx hb dX6_writeFile_40 rfl (lv_at hl 0 rfl) ?_
    refine lv_aload_n hx hb dX6_writeFile_41 rfl (lv_at hl 2 rfl) ?_
    obtain ⟨u21, hu21, h⟩ := bd_t h
    refine cSv (wr := [(hp3, .inr (2, [.int p3_count, .ref hp3_letters, .ref hp3_lengths, .ref hp3_bytes])), (hp3_letters, .inl (E.1, 4, .inl p3_letters)), (hp3_lengths, .inl (E.1, 4, .inl p3_lengths)), (hp3_bytes, .inl (E.1, 240, .inl p3_bytes)), (hp1, .inr (4, [.int p1_ram, .int p1_end, .ref hp1_original])), (hp2_memory, .inl (E.1, 512, .inl p2_memory)), (hp1_original, .inl (E.1, 512, .inl p1_original)), (hp2_stack, .inl (E.1, 40, .inl p2_stack))]) (As := [.ref hp0, .ref hp2]) (rest := []) ⟨hx, hb, hml, hown, hts⟩ (c_X6_writeBlocks l G E N hp0 hp0_bytes u11.2.1 u11.2.2 u11.1 hp2 hp2_memory p2_size hp2_stack p2_depth hp2_starts hp2_lengths p2_blocks p2_starts p2_lengths u21.1 u21.2.1 u21.2.2 hu21) ok_X6_writeBlocks oks_X6_writeBlocks wd_447831b8 ⟨Nat.le_of_ble_eq_true rfl, Nat.le_of_ble_eq_true rfl⟩ hK hP hD hS hA [9, 10, 11, 0, 5] [1, 2, 3, 4, 6, 7, 8, 12] rfl rfl (by decide) (by decide) (by decide) rfl hl.1 rfl (Nat.le_of_ble_eq_true rfl) dX6_writeFile_42 ⟨Nat.le_of_ble_eq_true rfl, Nat.le_of_ble_eq_true rfl⟩ (fun H locs a22 hP hD hS => ?_)
    have hP : va_P G vwCl [(hp3, .inr (2, [.int p3_count, .ref hp3_letters, .ref hp3_lengths, .ref hp3_bytes])), (hp3_letters, .inl (E.1, 4, .inl p3_letters)), (hp3_lengths, .inl (E.1, 4, .inl p3_lengths)), (hp3_bytes, .inl (E.1, 240, .inl p3_bytes)), (hp1, .inr (4, [.int p1_ram, .int p1_end, .ref hp1_original])), (hp2_memory, .inl (E.1, 512, .inl p2_memory)), (hp1_original, .inl (E.1, 512, .inl p1_original)), (hp2_stack, .inl (E.1, 40, .inl p2_stack)), (hp0, .inr (0, [.ref hp0_bytes, .int u21.2.1, .int u21.2.2])), (hp0_bytes, .inl (E.1, 1200, .inl u21.1)), (hp2, .inr (1, [.ref hp2_memory, .int p2_size, .ref hp2_stack, .int p2_depth, .ref hp2_starts, .ref hp2_lengths, .int p2_blocks])), (hp2_starts, .inl (E.1, 8, .inl p2_starts)), (hp2_lengths, .inl (E.1, 8, .inl p2_lengths))] H := hP
    have hD : va_D A [(hp3, .inr (2, [.int p3_count, .ref hp3_letters, .ref hp3_lengths, .ref hp3_bytes])), (hp3_letters, .inl (E.1, 4, .inl p3_letters)), (hp3_lengths, .inl (E.1, 4, .inl p3_lengths)), (hp3_bytes, .inl (E.1, 240, .inl p3_bytes)), (hp1, .inr (4, [.int p1_ram, .int p1_end, .ref hp1_original])), (hp2_memory, .inl (E.1, 512, .inl p2_memory)), (hp1_original, .inl (E.1, 512, .inl p1_original)), (hp2_stack, .inl (E.1, 40, .inl p2_stack)), (hp0, .inr (0, [.ref hp0_bytes, .int u21.2.1, .int u21.2.2])), (hp0_bytes, .inl (E.1, 1200, .inl u21.1)), (hp2, .inr (1, [.ref hp2_memory, .int p2_size, .ref hp2_stack, .int p2_depth, .ref hp2_starts, .ref hp2_lengths, .int p2_blocks])), (hp2_starts, .inl (E.1, 8, .inl p2_starts)), (hp2_lengths, .inl (E.1, 8, .inl p2_lengths))] := hD
    exact hJ45 u21.1 u21.2.1 u21.2.2 h _ _ _ (hP.sub [11, 0, 1, 2, 3, 12, 4, 5, 6, 8, 9, 10, 7] rfl) (hD.sub [11, 0, 1, 2, 3, 12, 4, 5, 6, 8, 9, 10, 7] (by decide) rfl) hS (lv_sub hl [0, 3] rfl)
