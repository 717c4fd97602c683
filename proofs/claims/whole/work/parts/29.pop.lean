/-! ===== pop: the throw, and its catching ===== -/
def throwW : List Cond := [.declares (Bundle.initS "java/lang/RuntimeException"), .declares (Bundle.initS "java/lang/Exception"), .declares (Bundle.initS Bundle.tN), .castable "java/lang/IllegalStateException" "java/lang/IllegalStateException"]
abbrev atW : List Cond := vx_atS RX7 112 "java/lang/IllegalStateException" ["java/lang/RuntimeException", "java/lang/Exception"]
theorem atW_tbl : ∀ w ∈ atW.filter goodWord, w ∈ lw_tbl := by decide +kernel
theorem atW_good : ∀ w ∈ atW.filter goodWord, w ∈ GT := fun w h => List.mem_filter.mpr ⟨atW_tbl w h, (List.mem_filter.mp h).2⟩
theorem atW_bad : ∀ w ∈ atW.filter (fun w => !goodWord w), w ∈ throwW := by decide +kernel
theorem atW_ot : ∀ w ∈ Cond.classLink RX7 108 "java/lang/IllegalStateException" :: Cond.initialized "java/lang/IllegalStateException" :: atW, vx_ot w = true := by decide +kernel
/-- what a throw asks of the state -/
def TK (A : Nat → Prop) (sa : Nat) (U : State) (H : Heap) : Prop := (∀ w ∈ throwW, va_Nw w U) ∧ vx_Zq Bundle.tN "UNASSIGNED_STACK" Bundle.steD A U H ∧ vx_Zq Bundle.tN "SUPPRESSED_SENTINEL" Bundle.listD A U H ∧ vk_R RX7 110 "the stack is empty" sa U
theorem TK.warm {A : Nat → Prop} {sa : Nat} {s U : State} {H : Heap} (hW : s.WarmedH U.vm) (h : TK A sa s H) : TK A sa U H := by
  refine ⟨fun w hw => ?_, h.2.1.moved hW.alike, h.2.2.1.moved hW.alike, vk_R.warm hW h.2.2.2⟩
  have h1 := h.1 w hw
  simp only [throwW, List.mem_cons, List.not_mem_nil, or_false] at hw
  rcases hw with rfl | rfl | rfl | rfl
  · exact va_Nw.warmD hW h1
  · exact va_Nw.warmD hW h1
  · exact va_Nw.warmD hW h1
  · exact va_Nw.warmC hW h1
theorem TK.same {A : Nat → Prop} {sa : Nat} {s U : State} {H : Heap} (hv : s.vm = U.vm) (h : TK A sa s H) : TK A sa U H := by
  have ha : s.vm.Alike U.vm := by rw [← hv]; exact Vm.Alike.refl s.vm
  refine ⟨fun w hw => ?_, h.2.1.moved ha, h.2.2.1.moved ha, vk_R.same hv.symm h.2.2.2⟩
  have h1 := h.1 w hw
  simp only [throwW, List.mem_cons, List.not_mem_nil, or_false] at hw
  rcases hw with rfl | rfl | rfl | rfl <;> exact va_Nw.same rfl hv h1
theorem TK.kept {A : Nat → Prop} {sa : Nat} {U : State} {H H1 : Heap} (h : TK A sa U H) (hq : ∀ a : Nat, a < H.size → ¬ A a → H1[a]? = H[a]?) : TK A sa U H1 := ⟨h.1, h.2.1.kept hq, h.2.2.1.kept hq, h.2.2.2⟩
theorem TK.narrow {A B : Nat → Prop} {sa : Nat} {U : State} {H : Heap} (h : TK A sa U H) (hAB : ∀ q, B q → A q) : TK B sa U H := ⟨h.1, h.2.1.narrow hAB, h.2.2.1.narrow hAB, h.2.2.2⟩
def PreT (G : va_G) (E : ClassId × ClassId × ClassId) (sa : Nat) (ws : va_W) (sz : Nat) : State → Prop := fun U => Pre0 G E ws sz U ∧ TK (va_A ws sz) sa U U.heap
theorem PreT.blind {G : va_G} {E : ClassId × ClassId × ClassId} {sa : Nat} {ws : va_W} {sz : Nat} {av : List Value} : FrameBlind (va_Pc av (PreT G E sa ws sz)) := fun a U g mk q => by
  obtain ⟨q0, ⟨q1, qP, qK, qD⟩, qT⟩ := q
  exact ⟨q0, ⟨q1, qP, KK.same (s := U) (U := U.calling g mk a) rfl qK, qD⟩, TK.same (s := U) (U := U.calling g mk a) rfl qT⟩
abbrev w_rm_popX : Room := { frames := 6, cells := 1, slots := 6, locals := 82 }
set_option maxHeartbeats 4000000 in
set_option maxRecDepth 100000 in
/-- GlulxSaves.pop on an empty stack: it throws, and nothing changes -/
theorem c_X7_popX (l : Launch) (hl0 : l.stackTraces = false) (G : va_G) (E : ClassId × ClassId × ClassId) (sa : Nat) (a : Nat → Nat) (I : Nat → Int32) (R : Nat → Nat → Int32) (hd : ¬ 0 < I 7) (sz : Nat) : vx_Met l yX7_pop (Cond.code yX7_pop cX7_pop 1 (some .int) :: GT) w_rm_popX (va_Pc [.ref (a 0)] (PreT G E sa (XW E a I R) sz)) (va_Qi (fun (_ : Int32) (_ : Unit) => False) (fun _ _ => True) (va_A (XW E a I R) sz)) (vx_X (fun _ : Unit => True) (fun En _ t => En = "java/lang/IllegalStateException" ∧ va_P G vwCl (XW E a I R) t.heap ∧ va_D (va_A (XW E a I R) sz) (XW E a I R)) (va_A (XW E a I R) sz)) 1 6 (va_A (XW E a I R) sz) := by
  refine vx_ofW (cc := cX7_pop) (maxL := 1) (ret := some .int) (by decide) rfl ?_
  intro p e s m args below meth c s₁ B hml htab hv
  obtain ⟨rfl, ⟨hsz, hP, hK, hD0⟩, hT⟩ := hv
  have hx := B.exec
  have hb := B.bytes
  have hlocks := B.notSynchronized
  have hown : s.vm.findClass RX7 = some m.cls := findClass_of_methodNamed B.named
  have hts : ∀ w ∈ GT, w.before _ s = true := fun w h => atoms_spec B.pre w (List.mem_cons_of_mem _ h)
  subst hsz
  have hD := hD0.self (sz := s.heap.size)
  have hS : va_S (va_A (XW E a I R) s.heap.size) s.heap s.heap [] := va_S.rf
  rw [lg_entry_eq]
  have hl := lv_entry [.ref (a 0)] (n := 1) (Nat.le_of_ble_eq_true rfl)
  generalize (lg_sl [.ref (a 0)] ++ List.replicate (1 - (lg_sl [.ref (a 0)]).length) Slot.unset).toArray = ls at hl ⊢
  replace hl : lv_has ls 1 [(0, .ref (a 0))] := hl
  refine lv_aload_n hx hb dX7_pop_0 rfl (lv_at hl 0 rfl) ?_
  refine getF (D := G) (ci := 6) (v := .ref (a 3)) (C := RX7) (T := TX7) (N := 12) hx hb hts inG_X7 hown hK.1 hP 0 rfl rfl 1 (by decide) tf_X7_1 (hts _ wd_47758689) rfl dX7_pop_1 ?_
  refine getF (D := G) (ci := 1) (v := .int (I 7)) (C := RX1) (T := TX1) (N := 7) hx hb hts inG_X1 hown hK.1 hP 3 rfl rfl 3 (by decide) tf_X1_3 (hts _ wd_29ee5a63) rfl dX7_pop_4 ?_
  refine lv_if_gt (tgt := 20) hx hb dX7_pop_7 (by decide) (fun c1 => absurd c1 hd) (fun _ => ?_)
  refine vx_throwS (A := va_A (XW E a I R) s.heap.size) (own := RX7) (cls := "java/lang/IllegalStateException") (text := "the stack is empty") (names := ["java/lang/RuntimeException", "java/lang/Exception"]) (ik := 108) (is := 110) (ic := 112) (sa := sa) hx hb hl0 hown (by decide +kernel) (by decide +kernel) (hts _ wd_8f40b1bc) (hts _ wd_89165b4d) hT.2.2.2 (vx_hat (fun w h => hts w (atW_good w h)) atW_bad (fun w h => va_Nw.use (by revert w; decide +kernel) (hT.1 w h))) atW_ot hT.2.1 hT.2.2.1 hS (hl.1.trans hml.symm) dX7_pop_10 dX7_pop_13 dX7_pop_14 dX7_pop_16 dX7_pop_19 (fun x hx => (htab x hx).elim) (by decide) (by decide) (by decide) (by decide) hlocks (fun t hvm hz hq => ?_) (fun z hz => by cases hz) (by decide) (by decide)
  refine ⟨(), trivial, ⟨rfl, hP.kept (fun k q hk => hq q.1 (hP k q hk).lt), hD⟩, hz, fun q h1 _ => hq q h1⟩
/-- a body with a table of its own -/
theorem Met_ofWH {l : Launch} {y : MethodName} {ws ws' : List Cond} {rm : Room} {Pc : Array Value → State → Prop} {Qc : Array Value → State → Outcome → State → Prop} {mc ms : Nat} {free : Addr → Prop} {cc : ByteArray} {maxL : Nat} {ret : Option FieldType} {hh : List (Nat × Nat × Nat × Nat)}
    (hy : plainName y.cls = true) (hw : ws = Cond.codeWith y cc maxL ret hh :: ws')
    (body : ∀ p e s m args below meth c s₁, BodyLoose p l y (headSpec ws rm) cc maxL ret e s m args below meth c s₁ → c.maxLocals = maxL → Pc args s →
      W p l e (headSpec ws rm).room s m args below meth c s.heap [] 0 0 (MQ below Qc args s mc ms free) (entryFrame m args maxL)) : Met l y ws rm Pc Qc mc ms free := by
  refine MetFree.of_bodyS (code := cc) (maxLocals := maxL) (ret := ret) hy ?_ ?_
  · intro args s m h hn
    obtain ⟨m9, meth, c, hn9, h1, h2, h3, h4, -, h5, h6, -⟩ := Cond.codeWith_spec (atoms_spec (ws := ws) h _ (by rw [hw]; exact List.mem_cons_self))
    cases hn.symm.trans hn9
    exact ⟨meth, c, h1, h2, h3, h4, h5, h6⟩
  · intro p e s m args below meth c s₁ B hml hP _
    have hh0 : s₁.heap = s.heap := by rw [B.state]; rfl
    obtain ⟨t, a1, o, b1, b2, b3⟩ := body p e s m args below meth c s₁ B hml hP s₁ hh0 (Stand.of_body B)
    exact ⟨t, o, a1, b1, b2, b3⟩
abbrev w_rm_L_pop : Room := { frames := 7, cells := 1, slots := 6, locals := 102 }
/-- the law's pop: what it asks, what it gives -/
def MP (l : Launch) (G : va_G) (E : ClassId × ClassId × ClassId) (sa : Nat) (av : List Value) (w0 : va_W) (r : Int32) (w1 : (Nat → Nat) → va_W) : Prop :=
  ∀ sz : Nat, Met l yL_pop (Cond.codeWith yL_pop cL_pop 3 (some .int) [(0, 8, 11, 13)] :: GT) w_rm_L_pop (va_Pc av (PreT G E sa w0 sz)) (va_Qi (fun (r' : Int32) (_ : Unit) => r' = r) (Pst0 G (va_A w0 sz) w1) (va_A w0 sz)) 1 6 (va_A w0 sz)
set_option maxHeartbeats 4000000 in
set_option maxRecDepth 100000 in
/-- .. on an empty stack: 1 -/
theorem c_L_popF (l : Launch) (hl0 : l.stackTraces = false) (G : va_G) (E : ClassId × ClassId × ClassId) (sa : Nat) (a : Nat → Nat) (I : Nat → Int32) (R : Nat → Nat → Int32) (ho : Nat) (f : Nat → Int64) (hd : ¬ 0 < I 7) : MP l G E sa [.ref (a 0), .ref ho] (XW E a I R ++ [(ho, .inl (E.2.2, 1, .inr (.inl f)))]) 1 (fun _ => XW E a I R ++ [(ho, .inl (E.2.2, 1, .inr (.inl f)))]) := by
  intro sz
  refine Met_ofWH (cc := cL_pop) (maxL := 3) (ret := some .int) (by decide) rfl ?_
  intro p e s m args below meth c s₁ B hml hv
  obtain ⟨rfl, ⟨hsz, hP, hK, hD0⟩, hT⟩ := hv
  have hx := B.exec
  have hb := B.bytes
  have hr := B.returns
  have hlocks := B.notSynchronized
  have hown : s.vm.findClass RL = some m.cls := findClass_of_methodNamed B.named
  have hts : ∀ w ∈ GT, w.before _ s = true := fun w h => atoms_spec B.pre w (List.mem_cons_of_mem _ h)
  have htab := vx_table (x := yL_pop) B (atoms_spec B.pre _ List.mem_cons_self)
  subst hsz
  have hA : ∀ q : Nat, s.heap.size ≤ q → va_A (XW E a I R ++ [(ho, .inl (E.2.2, 1, .inr (.inl f)))]) s.heap.size q := fun q h => Or.inr h
  have hD := hD0.self (sz := s.heap.size)
  have hS : va_S (va_A (XW E a I R ++ [(ho, .inl (E.2.2, 1, .inr (.inl f)))]) s.heap.size) s.heap s.heap [] := va_S.rf
  rw [lg_entry_eq]
  have hl := lv_entry [.ref (a 0), .ref ho] (n := 3) (Nat.le_of_ble_eq_true rfl)
  generalize (lg_sl [.ref (a 0), .ref ho] ++ List.replicate (3 - (lg_sl [.ref (a 0), .ref ho]).length) Slot.unset).toArray = ls at hl ⊢
  replace hl : lv_has ls 3 [(0, .ref (a 0)), (1, .ref ho)] := hl
  refine lv_aload_n hx hb dL_pop_0 rfl (lv_at hl 1 rfl) ?_
  refine lv_iconst (v := 0) hx hb dL_pop_1 (by decide) ?_
  refine lv_aload_n hx hb dL_pop_2 rfl (lv_at hl 0 rfl) ?_
  have hFc := blk_free hD hS hA
  refine vx_calli (vx_runV (As := []) (rest := [.int 0, .ref ho]) ⟨hx, hb, hml, hown, hts⟩ (c_X7_popX l hl0 G E sa a I R hd s.heap.size) ⟨callB_of 0 hts (GT_c ok_X7_pop.1) rfl rfl rfl (hts _ ok_X7_pop.2.1) (hts _ wd_7c4e94b5) ok_X7_pop.2.2 (by decide), hts _ okv_X7_pop.1, hts _ okv_X7_pop.2⟩ ⟨PreT.blind, va_recv hK.1 hP (ci := 6) (q0 := 0) rfl rfl, fun U hU hW => ⟨rfl, ⟨by rw [hU], by rw [hU]; exact P_l hP, KK.warm hW hK, (D_l hD).weaken (fun _ _ _ _ => trivial)⟩, by rw [hU]; exact TK.warm hW (hT.narrow hFc)⟩⟩ rfl rfl hl.1 rfl (wsum_ (Nat.le_of_ble_eq_true rfl)) dL_pop_3 (by decide)) hS (fun q _ h => hFc q h) hFc (fun q _ h => hFc q h) (fun En ce q9 u t H1 locs1 ht hvm _ hB hz hk hS1 hce hcv hcl => ?_) (fun _ _ _ _ _ _ _ h => h.elim)
  obtain ⟨hEn, hP1, hD1⟩ := hB
  rw [ht] at hP1
  subst hEn
  obtain ⟨hP2, hD2⟩ := blk_join hP hD hk hFc hP1 hD1
  refine vx_catch (own := RL) (name := "java/lang/IllegalStateException") hown [] _ [] (htab.trans rfl) (fun z hz => by cases hz) (by decide) (by decide) (hts _ wd_98767da5) (va_Nw.use rfl (hT.1 (.castable "java/lang/IllegalStateException" "java/lang/IllegalStateException") (by decide +kernel))) hce hcv hcl ?_
  refine W.eq (g2 := F0 m 11 ls [.ref q9]) rfl ?_
  refine lv_astore_n (lv' := [(2, .ref q9), (0, .ref (a 0)), (1, .ref ho)]) hx hb dL_pop_11 rfl hl (by decide) rfl (fun ls hl => ?_)
  refine lv_iconst (v := 1) hx hb dL_pop_12 (by decide) ?_
  exact W.iret (v := 1) hx hb hr (fun t ht hW => ⟨⟨1, (), rfl, rfl, a, by rw [ht]; exact hP2, hD2⟩, hS1.F ht⟩) hS1.2.2 dL_pop_13
set_option maxHeartbeats 4000000 in
set_option maxRecDepth 100000 in
/-- .. else 0, and what came lies in out -/
theorem c_L_popT (l : Launch) (G : va_G) (E : ClassId × ClassId × ClassId) (sa N : Nat) (a : Nat → Nat) (I : Nat → Int32) (R : Nat → Nat → Int32) (ho : Nat) (f : Nat → Int64) (r o0 : Int32) (h : f_X7_pop (I 7) (R 2) = some (r, o0)) : MP l G E sa [.ref (a 0), .ref ho] (XW E a I R ++ [(ho, .inl (E.2.2, 1, .inr (.inl f)))]) 0 (fun b => XW E (va_up b 0 (a 0)) (va_up I 7 o0) R ++ [(ho, .inl (E.2.2, 1, .inr (.inl (vp_updL f (0 : Int32).toNatClampNeg r.toInt64))))]) := by
  intro sz
  refine Met_ofWH (cc := cL_pop) (maxL := 3) (ret := some .int) (by decide) rfl ?_
  intro p e s m args below meth c s₁ B hml hv
  obtain ⟨rfl, ⟨hsz, hP, hK, hD0⟩, hT⟩ := hv
  have hx := B.exec
  have hb := B.bytes
  have hr := B.returns
  have hlocks := B.notSynchronized
  have hown : s.vm.findClass RL = some m.cls := findClass_of_methodNamed B.named
  have hts : ∀ w ∈ GT, w.before _ s = true := fun w h => atoms_spec B.pre w (List.mem_cons_of_mem _ h)
  subst hsz
  have hD := hD0.self (sz := s.heap.size)
  generalize hAe : va_A (XW E a I R ++ [(ho, .inl (E.2.2, 1, .inr (.inl f)))]) s.heap.size = A at hD ⊢
  have hA : ∀ q : Nat, s.heap.size ≤ q → A q := fun q h => by rw [← hAe]; exact Or.inr h
  have hS : va_S A s.heap s.heap [] := va_S.rf
  rw [lg_entry_eq]
  have hl := lv_entry [.ref (a 0), .ref ho] (n := 3) (Nat.le_of_ble_eq_true rfl)
  generalize (lg_sl [.ref (a 0), .ref ho] ++ List.replicate (3 - (lg_sl [.ref (a 0), .ref ho]).length) Slot.unset).toArray = ls at hl ⊢
  replace hl : lv_has ls 3 [(0, .ref (a 0)), (1, .ref ho)] := hl
  refine lv_aload_n hx hb dL_pop_0 rfl (lv_at hl 1 rfl) ?_
  refine lv_iconst (v := 0) hx hb dL_pop_1 (by decide) ?_
  refine lv_aload_n hx hb dL_pop_2 rfl (lv_at hl 0 rfl) ?_
  refine bVi (As := []) (rest := [.int 0, .ref ho]) ⟨hx, hb, hml, hown, hts⟩ (k_X7_pop l G E N a I R r o0 h) ok_X7_pop okv_X7_pop wd_7c4e94b5 (by decide) hK hP hD hS hA (va_recv hK.1 hP (ci := 6) (q0 := 0) rfl rfl) rfl hl.1 rfl (Nat.le_of_ble_eq_true rfl) dL_pop_3 (by decide) (fun H locs b hP hD hS => ?_)
  refine lv_i2l (v := r.toInt64) hx hb dL_pop_6 rfl ?_
  refine va_last (D := G) (q0 := 48) (t0 := 2) (cA := E.2.2) (n := 1) (f := f) hx hb hK.1 hP hD hS rfl rfl (vp_in_nI (n := 0) (by decide) (by decide)) dL_pop_7 (fun H locs hP hD hS => ?_)
  replace hP : va_P G vwCl (XW E (va_up b 0 (a 0)) (va_up I 7 o0) R ++ [(ho, .inl (E.2.2, 1, .inr (.inl (vp_updL f (0 : Int32).toNatClampNeg r.toInt64))))]) H := hP
  replace hD : va_D A (XW E (va_up b 0 (a 0)) (va_up I 7 o0) R ++ [(ho, .inl (E.2.2, 1, .inr (.inl (vp_updL f (0 : Int32).toNatClampNeg r.toInt64))))]) := hD
  refine lv_goto (tgt := 14) hx hb dL_pop_8 (by decide) ?_
  refine lv_iconst (v := 0) hx hb dL_pop_14 (by decide) ?_
  refine W.widen (k := 1) (n := 6) (by decide) (by decide) ?_
  exact W.iret (v := 0) hx hb hr (fun t ht hW => ⟨⟨0, (), rfl, rfl, b, by rw [ht]; exact hP, hD⟩, hS.F ht⟩) hS.2.2 dL_pop_15
