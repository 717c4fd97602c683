/-! ===== the base: what every contract has in common ===== -/
/-- the words of the tables that go along with any state: one list for all methods -/
def GT : List Cond := lw_tbl.filter goodWord
theorem GT_mem {w : Cond} (i : Nat) (h : lw_tbl[i]? = some w) (hg : goodWord w = true) : w ∈ GT := List.mem_filter.mpr ⟨List.mem_of_getElem? h, hg⟩
theorem GT_good : GoodIn GT GT := fun w h => ⟨h, good_of_word (List.mem_filter.mp h).2⟩
theorem GT_c {c : Cond} (hc : c ∈ GT) : GoodIn GT (c :: GT) := fun w h => (List.mem_cons.mp h).elim (fun e => e ▸ GT_good c hc) (fun h => GT_good w h)
/-- a method: its code and what a call asks of its name -/
def OkY (y : MethodName) (bytes : ByteArray) (maxL : Nat) (ret : Option FieldType) (n : Nat) : Prop := Cond.code y bytes maxL ret ∈ GT ∧ Cond.initialized y.cls ∈ GT ∧ (y.cls ≠ "java/lang/invoke/MethodHandle" ∧ y.cls ≠ "java/lang/invoke/VarHandle" ∧ (parseMethodDescriptor y.desc).map (fun d => d.parameters.length) = some n)
def OkV (y : MethodName) : Prop := Cond.instanceMethod y ∈ GT ∧ Cond.selects y.cls y y ∈ GT
/-- the array classes: ints, machines, longs -/
abbrev ct (E : ClassId × ClassId × ClassId) : List (ClassId × FieldType) := [(E.1, .int), (E.2.1, .object RX1), (E.2.2, .long)]
/-- the links of nest mates -/
def nestW : List Cond := [.methodLinkNest RX7 9 yX1_init "GlulxSaves", .methodLinkNest RX7 21 yX2_init "GlulxSaves", .methodLinkNest RX7 28 yX0_init "GlulxSaves", .methodLinkNest RX5 21 yX1_init "GlulxSaves", .methodLinkNest RX3 11 yX1_init "GlulxSaves", .methodLinkNest RX3 20 yX2_init "GlulxSaves", .methodLinkNest RX1 54 yX7_isBlockLength "GlulxSaves"]
/-- what the tables say, as it goes along with every state -/
def KK (G : va_G) (E : ClassId × ClassId × ClassId) (U : State) : Prop := va_K G vwCl (ct E) U ∧ (∀ w ∈ nestW, va_Nw w U) ∧ va_AO RX1 U
theorem KK.warm {G : va_G} {E : ClassId × ClassId × ClassId} {s U : State} (hW : s.WarmedH U.vm) (h : KK G E s) : KK G E U := by
  refine ⟨va_K.moved hW.alike h.1, fun w hw => ?_, va_AO.moved hW.alike h.2.2⟩
  have h1 := h.2.1 w hw
  simp only [nestW, List.mem_cons, List.not_mem_nil, or_false] at hw
  rcases hw with rfl | rfl | rfl | rfl | rfl | rfl | rfl <;> exact va_Nw.warmM hW h1
theorem KK.same {G : va_G} {E : ClassId × ClassId × ClassId} {s U : State} (hW : s.vm = U.vm) (h : KK G E s) : KK G E U := by
  have ha : s.vm.Alike U.vm := by rw [← hW]; exact Vm.Alike.refl s.vm
  refine ⟨va_K.moved ha h.1, fun w hw => ?_, va_AO.moved ha h.2.2⟩
  have h1 := h.2.1 w hw
  simp only [nestW, List.mem_cons, List.not_mem_nil, or_false] at hw
  rcases hw with rfl | rfl | rfl | rfl | rfl | rfl | rfl <;> exact va_Nw.same rfl hW h1
/-- a contract's start and end: cells -/
def Pre0 (G : va_G) (E : ClassId × ClassId × ClassId) (ws : va_W) (sz : Nat) : State → Prop := fun U => U.heap.size = sz ∧ va_P G vwCl ws U.heap ∧ KK G E U ∧ va_D (fun _ => True) ws
def Pst0 (G : va_G) (A : Nat → Prop) (ws : (Nat → Nat) → va_W) : Unit → State → Prop := fun _ t => ∃ a : Nat → Nat, va_P G vwCl (ws a) t.heap ∧ va_D A (ws a)
theorem Pre0.blind {G : va_G} {E : ClassId × ClassId × ClassId} {ws : va_W} {sz : Nat} {av : List Value} : FrameBlind (va_Pc av (Pre0 G E ws sz)) := fun a U g mk q => by
  obtain ⟨q0, q1, qP, qK, qD⟩ := q
  exact ⟨q0, q1, qP, KK.same (s := U) (U := U.calling g mk a) rfl qK, qD⟩
/-- it returns an int r; the cells w0 become w1 -/
def MI (l : Launch) (G : va_G) (E : ClassId × ClassId × ClassId) (y : MethodName) (cc : ByteArray) (maxL : Nat) (ty : FieldType) (rm : Room) (av : List Value) (w0 : va_W) (r : Int32) (w1 : (Nat → Nat) → va_W) (mc ms : Nat) : Prop :=
  ∀ sz : Nat, Met l y (Cond.code y cc maxL (some ty) :: GT) rm (va_Pc av (Pre0 G E w0 sz)) (va_Qi (fun (r' : Int32) (_ : Unit) => r' = r) (Pst0 G (va_A w0 sz) w1) (va_A w0 sz)) mc ms (va_A w0 sz)
/-- it returns nothing -/
def MV (l : Launch) (G : va_G) (E : ClassId × ClassId × ClassId) (y : MethodName) (cc : ByteArray) (maxL : Nat) (rm : Room) (av : List Value) (w0 : va_W) (w1 : (Nat → Nat) → va_W) (mc ms : Nat) : Prop :=
  ∀ sz : Nat, Met l y (Cond.code y cc maxL none :: GT) rm (va_Pc av (Pre0 G E w0 sz)) (va_Qv (fun (_ : Unit) => True) (Pst0 G (va_A w0 sz) w1) (va_A w0 sz)) mc ms (va_A w0 sz)
/-- it returns a reference, or null -/
def MR (l : Launch) (G : va_G) (E : ClassId × ClassId × ClassId) (y : MethodName) (cc : ByteArray) (maxL : Nat) (ty : FieldType) (rm : Room) (av : List Value) (w0 : va_W) (r : Option Nat) (w1 : (Nat → Nat) → va_W) (mc ms : Nat) : Prop :=
  ∀ sz : Nat, Met l y (Cond.code y cc maxL (some ty) :: GT) rm (va_Pc av (Pre0 G E w0 sz)) (va_Qq (fun (r' : Option Nat) (_ : Unit) => r' = r) (Pst0 G (va_A w0 sz) w1) (va_A w0 sz)) mc ms (va_A w0 sz)
/-- the three rows of undo, by their places -/
def kf (a b c : Nat) : Nat → Option Nat
  | 0 => some a
  | 1 => some b
  | 2 => some c
  | _ => none
theorem kf_rot (a b c : Nat) : va_up (va_up (va_up (kf a b c) 0 (some b)) 1 (some c)) 2 (some a) = kf b c a := by
  funext j
  match j with
  | 0 => rfl
  | 1 => rfl
  | 2 => rfl
  | j + 3 => rfl
theorem kf_new (a b c : Nat) : va_up (va_up (va_up (fun _ => none) 0 (some a)) 1 (some b)) 2 (some c) = kf a b c := by
  funext j
  match j with
  | 0 => rfl
  | 1 => rfl
  | 2 => rfl
  | j + 3 => rfl
/-- a place told by a number, or none -/
def kfc (a b c : Nat) (r : Int32) : Option Nat := if r = 0 then some a else if r = 1 then some b else if r = 2 then some c else none
theorem kfc_n {a b c : Nat} {r : Int32} (h0 : ¬ r = 0) (h1 : ¬ r = 1) (h2 : ¬ r = 2) : kfc a b c r = none := by
  unfold kfc
  rw [if_neg h0, if_neg h1, if_neg h2]
/-- the head of a walk -/
theorem MI_of {l : Launch} {G : va_G} {E : ClassId × ClassId × ClassId} {y : MethodName} {rm : Room} {av : List Value} {w0 : va_W} {r : Int32} {w1 : (Nat → Nat) → va_W} {mc ms : Nat} {cc : ByteArray} {maxL : Nat} {ty : FieldType}
    (hy : plainName y.cls = true) (hn : (lg_sl av).length ≤ maxL)
    (body : ∀ (p : Program) (e : Env) (s : State) (m : MethodId) (args : Array Value) (below : List Frame) (meth : Method) (c : Code) (A : Nat → Prop) (Q : State → Prop), p.tables.exec = Jvm.exec → c.code = cc → c.maxLocals = maxL → s.vm.findClass y.cls = some m.cls → (∀ w ∈ GT, w.before args s = true) → KK G E s → (∀ q, s.heap.size ≤ q → A q) → va_P G vwCl w0 s.heap → va_D A w0 → va_S A s.heap s.heap [] →
      (∀ (H : Heap) (locs : List Loc) (pc : Nat) (ls : Array Slot) (v : Int32) (a : Nat → Nat), v = r → narrow ty (.int v) = .int v → va_P G vwCl (w1 a) H → va_D A (w1 a) → va_S A s.heap H locs → decode cc pc = .ok (.ireturn, 1) → W p l e rm s m args below meth c H locs mc ms Q (F0 m pc ls [.int v])) →
      ∀ (ls : Array Slot), lv_has ls maxL (lv_args 0 av) → W p l e rm s m args below meth c s.heap [] 0 0 Q (F0 m 0 ls [])) : MI l G E y cc maxL ty rm av w0 r w1 mc ms := by
  intro sz
  refine Met.ofW (cc := cc) (maxL := maxL) (ret := some ty) hy rfl ?_
  intro p e s m args below meth c s₁ B hml hv
  obtain ⟨rfl, hsz, hP, hK, hD0⟩ := hv
  have hlocks := B.notSynchronized
  subst hsz
  have hA : ∀ q : Nat, s.heap.size ≤ q → va_A w0 s.heap.size q := fun q h => Or.inr h
  rw [lg_entry_eq]
  refine body p e s m av.toArray below meth c _ _ B.exec B.bytes hml (findClass_of_methodNamed B.named) (fun w h => atoms_spec B.pre w (List.mem_cons_of_mem _ h)) hK hA hP (hD0.self (sz := s.heap.size)) va_S.rf ?_ _ (lv_entry av (n := maxL) hn)
  intro H locs pc ls v a hv hnr hP1 hD1 hS1 hd
  exact W.zret B.exec B.bytes B.returns hnr (fun t ht hW => ⟨⟨v, (), rfl, hv, a, by rw [ht]; exact hP1, hD1⟩, hS1.F ht⟩) hS1.2.2 hd
theorem MR_of {l : Launch} {G : va_G} {E : ClassId × ClassId × ClassId} {y : MethodName} {rm : Room} {av : List Value} {w0 : va_W} {r : Option Nat} {w1 : (Nat → Nat) → va_W} {mc ms : Nat} {cc : ByteArray} {maxL : Nat} {ty : FieldType}
    (hy : plainName y.cls = true) (hn : (lg_sl av).length ≤ maxL) (hrt : (∃ n, ty = .object n) ∨ ∃ t, ty = .array t)
    (body : ∀ (p : Program) (e : Env) (s : State) (m : MethodId) (args : Array Value) (below : List Frame) (meth : Method) (c : Code) (A : Nat → Prop) (Q : State → Prop), p.tables.exec = Jvm.exec → c.code = cc → c.maxLocals = maxL → s.vm.findClass y.cls = some m.cls → (∀ w ∈ GT, w.before args s = true) → KK G E s → (∀ q, s.heap.size ≤ q → A q) → va_P G vwCl w0 s.heap → va_D A w0 → va_S A s.heap s.heap [] →
      (∀ (H : Heap) (locs : List Loc) (pc : Nat) (ls : Array Slot) (v : Option Nat) (a : Nat → Nat), v = r → va_P G vwCl (w1 a) H → va_D A (w1 a) → va_S A s.heap H locs → decode cc pc = .ok (.areturn, 1) → W p l e rm s m args below meth c H locs mc ms Q (F0 m pc ls [va_rf v])) →
      ∀ (ls : Array Slot), lv_has ls maxL (lv_args 0 av) → W p l e rm s m args below meth c s.heap [] 0 0 Q (F0 m 0 ls [])) : MR l G E y cc maxL ty rm av w0 r w1 mc ms := by
  intro sz
  refine Met.ofW (cc := cc) (maxL := maxL) (ret := some ty) hy rfl ?_
  intro p e s m args below meth c s₁ B hml hv
  obtain ⟨rfl, hsz, hP, hK, hD0⟩ := hv
  have hlocks := B.notSynchronized
  subst hsz
  have hA : ∀ q : Nat, s.heap.size ≤ q → va_A w0 s.heap.size q := fun q h => Or.inr h
  rw [lg_entry_eq]
  refine body p e s m av.toArray below meth c _ _ B.exec B.bytes hml (findClass_of_methodNamed B.named) (fun w h => atoms_spec B.pre w (List.mem_cons_of_mem _ h)) hK hA hP (hD0.self (sz := s.heap.size)) va_S.rf ?_ _ (lv_entry av (n := maxL) hn)
  intro H locs pc ls v a hv hP1 hD1 hS1 hd
  exact W.aret B.exec B.bytes B.returns hrt (va_rf_or v) (fun t ht hW => ⟨⟨v, (), rfl, hv, a, by rw [ht]; exact hP1, hD1⟩, hS1.F ht⟩) hS1.2.2 hd
theorem MV_of {l : Launch} {G : va_G} {E : ClassId × ClassId × ClassId} {y : MethodName} {rm : Room} {av : List Value} {w0 : va_W} {w1 : (Nat → Nat) → va_W} {mc ms : Nat} {cc : ByteArray} {maxL : Nat}
    (hy : plainName y.cls = true) (hn : (lg_sl av).length ≤ maxL)
    (body : ∀ (p : Program) (e : Env) (s : State) (m : MethodId) (args : Array Value) (below : List Frame) (meth : Method) (c : Code) (A : Nat → Prop) (Q : State → Prop), p.tables.exec = Jvm.exec → c.code = cc → c.maxLocals = maxL → s.vm.findClass y.cls = some m.cls → (y.name = "<init>" → meth.name = "<init>") → (∀ w ∈ GT, w.before args s = true) → KK G E s → (∀ q, s.heap.size ≤ q → A q) → va_P G vwCl w0 s.heap → va_D A w0 → va_S A s.heap s.heap [] →
      (∀ (H : Heap) (locs : List Loc) (pc : Nat) (ls : Array Slot) (a : Nat → Nat), va_P G vwCl (w1 a) H → va_D A (w1 a) → va_S A s.heap H locs → decode cc pc = .ok (.return_, 1) → W p l e rm s m args below meth c H locs mc ms Q (F0 m pc ls [])) →
      ∀ (ls : Array Slot), lv_has ls maxL (lv_args 0 av) → W p l e rm s m args below meth c s.heap [] 0 0 Q (F0 m 0 ls [])) : MV l G E y cc maxL rm av w0 w1 mc ms := by
  intro sz
  refine Met.ofW (cc := cc) (maxL := maxL) (ret := none) hy rfl ?_
  intro p e s m args below meth c s₁ B hml hv
  obtain ⟨rfl, hsz, hP, hK, hD0⟩ := hv
  have hlocks := B.notSynchronized
  subst hsz
  have hA : ∀ q : Nat, s.heap.size ≤ q → va_A w0 s.heap.size q := fun q h => Or.inr h
  rw [lg_entry_eq]
  refine body p e s m av.toArray below meth c _ _ B.exec B.bytes hml (findClass_of_methodNamed B.named) (fun h => (name_of_methodNamed B.named B.method).1.trans h) (fun w h => atoms_spec B.pre w (List.mem_cons_of_mem _ h)) hK hA hP (hD0.self (sz := s.heap.size)) va_S.rf ?_ _ (lv_entry av (n := maxL) hn)
  intro H locs pc ls a hP1 hD1 hS1 hd
  exact W.vret B.exec B.bytes B.returns (fun t ht hW => ⟨⟨(), rfl, trivial, a, by rw [ht]; exact hP1, hD1⟩, hS1.F ht⟩) hS1.2.2 hd
theorem ct_int {G : va_G} {E : ClassId × ClassId × ClassId} {s : State} {cA : ClassId} (hK : KK G E s) (h2 : va_K G vwCl (ct E ++ [(cA, .int)]) s) : cA = E.1 := Option.some.inj ((h2.2 3 (cA, .int) rfl).2.symm.trans (hK.1.2 0 (E.1, .int) rfl).2)
theorem ct_long {G : va_G} {E : ClassId × ClassId × ClassId} {s : State} {cA : ClassId} (hK : KK G E s) (h2 : va_K G vwCl (ct E ++ [(cA, .long)]) s) : cA = E.2.2 := Option.some.inj ((h2.2 3 (cA, .long) rfl).2.symm.trans (hK.1.2 2 (E.2.2, .long) rfl).2)
theorem ct_obj {G : va_G} {E : ClassId × ClassId × ClassId} {s : State} {cA : ClassId} (hK : KK G E s) (h2 : va_K G vwCl (ct E ++ [(cA, .object RX1)]) s) : cA = E.2.1 := by
  obtain ⟨_, _, _, _, _, h1⟩ := (hK.1.2 1 (E.2.1, .object RX1) rfl).2
  obtain ⟨_, _, _, _, _, h3⟩ := (h2.2 3 (cA, .object RX1) rfl).2
  exact Option.some.inj (h3.symm.trans h1)
theorem pd_I : parseFieldDescriptor "I" = some .int := by decide +kernel
theorem pd_Z : parseFieldDescriptor "Z" = some .boolean := by decide +kernel
theorem pd_AI : parseFieldDescriptor "[I" = some (.array .int) := by decide +kernel
section FIELDS
variable {p : Program} {l : Launch} {e : Env} {R : Room} {s : State} {m : MethodId} {args : Array Value} {below : List Frame} {meth : Method} {c : Code} {H : Heap} {locs : List Loc} {cells slots : Nat} {Q : State → Prop}
variable {cc : ByteArray} {pc : Nat} {ls : Array Slot} {rest : List Value} {D : va_G} {cl : List vw_C} {A : Nat → Prop} {a : Nat} {tys : List (ClassId × FieldType)} {ws : va_W} {H0 : Heap}
theorem getF (hexec : p.tables.exec = Jvm.exec) (hb : c.code = cc) {own C d n ds : String} {fin : Bool} {T : u_T} {N ci index : Nat} {Ts : List Cond} (hts : ∀ w ∈ Ts, w.before args s = true) (hin : ∀ w ∈ u_ws C T N, w ∈ Ts) (hown : s.vm.findClass own = some m.cls) (hK : va_K D cl tys s) (hP : va_P D cl ws H) (q0 : Nat) {fs : List Value} (he : ws[q0]? = some (a, .inr (ci, fs))) (hc : cl[ci]? = some (C, T, N)) (k : Nat) (hk : k < N) (hT : T k = (d, n, ds, fin)) (hlink : (Cond.fieldLink own index d n ds).before args s = true) {v : Value} (hv : fs[k]? = some v) (hdg : decode cc pc = .ok (.getfield index, 3))
    (kk : W p l e R s m args below meth c H locs cells slots Q (F0 m (pc + 3) ls (v :: rest))) : W p l e R s m args below meth c H locs cells slots Q (F0 m pc ls (.ref a :: rest)) :=
  va_get (ref := d) hexec hb hts hin hown hK hP q0 he hc k hk (by rw [hT]; exact hlink) (by rw [hT]; exact fun _ h => h) hv hdg kk
theorem putF (hexec : p.tables.exec = Jvm.exec) (hb : c.code = cc) {own C d n ds : String} {T : u_T} {N ci index : Nat} {Ts : List Cond} (hts : ∀ w ∈ Ts, w.before args s = true) (hin : ∀ w ∈ u_ws C T N, w ∈ Ts) (ty0 : Nat → FieldType) (hty : ∀ k, k < N → parseFieldDescriptor (T k).2.2.1 = some (ty0 k)) (hnm : ∀ a, a < N → ∀ b, b < N → a ≠ b → (T a).2.1 ≠ (T b).2.1) (hown : s.vm.findClass own = some m.cls) (hK : va_K D cl tys s) (hP : va_P D cl ws H) (hD : va_D A ws) (hS0 : va_S A H0 H locs) (q0 : Nat) {fs : List Value} (he : ws[q0]? = some (a, .inr (ci, fs))) (hc : cl[ci]? = some (C, T, N)) (k : Nat) (hk : k < N) (hT : T k = (d, n, ds, false)) (hlink : (Cond.fieldLink own index d n ds).before args s = true) {ty : FieldType} {v : Value} (hd : parseFieldDescriptor ds = some ty) (hn : narrow ty v = v) (hfit : fits ty v = true) (hl : k < fs.length)
    (hdg : decode cc pc = .ok (.putfield index, 3)) (kk : ∀ (H1 : Heap) (locs1 : List Loc), va_P D cl (ws.set q0 (a, .inr (ci, fs.set k v))) H1 → va_D A (ws.set q0 (a, .inr (ci, fs.set k v))) → va_S A H0 H1 locs1 → W p l e R s m args below meth c H1 locs1 cells slots Q (F0 m (pc + 3) ls rest)) : W p l e R s m args below meth c H locs cells slots Q (F0 m pc ls (v :: .ref a :: rest)) :=
  va_put (ref := d) hexec hb hts hin ty0 hty hnm hown hK hP hD hS0 q0 he hc k hk (by rw [hT]; exact hlink) (by rw [hT]; exact fun _ h => h) (by rw [hT]) (by rw [hT]; exact hd) hn hfit hl hdg kk
theorem putFF (hexec : p.tables.exec = Jvm.exec) (hb : c.code = cc) {own C n ds : String} {T : u_T} {N ci index : Nat} {Ts : List Cond} (hts : ∀ w ∈ Ts, w.before args s = true) (hin : ∀ w ∈ u_ws C T N, w ∈ Ts) (ty0 : Nat → FieldType) (hty : ∀ k, k < N → parseFieldDescriptor (T k).2.2.1 = some (ty0 k)) (hnm : ∀ a, a < N → ∀ b, b < N → a ≠ b → (T a).2.1 ≠ (T b).2.1) (hown : s.vm.findClass own = some m.cls) (hK : va_K D cl tys s) (hP : va_P D cl ws H) (hD : va_D A ws) (hS0 : va_S A H0 H locs) (q0 : Nat) {fs : List Value} (he : ws[q0]? = some (a, .inr (ci, fs))) (hc : cl[ci]? = some (C, T, N)) (k : Nat) (hk : k < N) (hT : T k = (own, n, ds, true)) (hlink : (Cond.fieldLink own index own n ds).before args s = true) (hin2 : meth.name = "<init>") {ty : FieldType} {v : Value} (hd : parseFieldDescriptor ds = some ty) (hn : narrow ty v = v) (hfit : fits ty v = true) (hl : k < fs.length)
    (hdg : decode cc pc = .ok (.putfield index, 3)) (kk : ∀ (H1 : Heap) (locs1 : List Loc), va_P D cl (ws.set q0 (a, .inr (ci, fs.set k v))) H1 → va_D A (ws.set q0 (a, .inr (ci, fs.set k v))) → va_S A H0 H1 locs1 → W p l e R s m args below meth c H1 locs1 cells slots Q (F0 m (pc + 3) ls rest)) : W p l e R s m args below meth c H locs cells slots Q (F0 m pc ls (v :: .ref a :: rest)) :=
  va_putF (ref := own) hexec hb hts hin ty0 hty hnm hown hK hP hD hS0 q0 he hc k hk (by rw [hT]; exact hlink) (by rw [hT]; exact fun _ h => h) (by rw [hT]) hin2 (by rw [hT]) (by rw [hT]; exact hd) hn hfit hl hdg kk
end FIELDS
section CALLS
variable {p : Program} {l : Launch} {e : Env} {R : Room} {s : State} {m : MethodId} {args : Array Value} {below : List Frame} {meth : Method} {c : Code} {H : Heap} {locs : List Loc} {cells slots : Nat} {Q : State → Prop} {G : va_G} {E : ClassId × ClassId × ClassId} {A : Nat → Prop}
variable {y : MethodName} {bytes cc : ByteArray} {maxL nL mc ms n index pc : Nat} {ty : FieldType} {rm : Room} {own host : String} {b : Addr} {As rest st : List Value} {ls : Array Slot} {ws wc wr w2 : va_W} {w1 : (Nat → Nat) → va_W} {r : Int32} {rq : Option Nat}
/-- what a call's run gives, with the rest put beside it -/
theorem calli_ {a : Array Value} (hr : va_Run p l e R s m args below meth c H locs cells slots mc ms (F0 m pc ls st) rest (va_Qi (fun (r' : Int32) (_ : Unit) => r' = r) (Pst0 G (va_A wc H.size) w1) (va_A wc H.size) a) (va_A wc H.size))
    (hP : va_P G vwCl ws H) (hD : va_D A ws) (hS : va_S A s.heap H locs) (hA : ∀ q, s.heap.size ≤ q → A q) (isC isR : List Nat) (hC : isC.map (fun i => ws[i]?) = wc.map some) (hR : isR.map (fun i => ws[i]?) = wr.map some) (hn : va_nd isR = true) (hdis : ∀ i ∈ isR, i ∉ isC)
    (kk : ∀ (H1 : Heap) (locs1 : List Loc) (a : Nat → Nat), va_P G vwCl (wr ++ w1 a) H1 → va_D A (wr ++ w1 a) → va_S A s.heap H1 locs1 → W p l e R s m args below meth c H1 locs1 (cells + mc) (slots + ms) Q (F0 m (pc + 3) ls (.int r :: rest))) : W p l e R s m args below meth c H locs cells slots Q (F0 m pc ls st) := by
  have hFc := va_free (wc := wc) hD hS hA isC hC
  refine va_calli hr hS (fun q _ h => hFc q h) hFc (fun r' u t H1 locs1 ht hvm hw hB hz1 hk1 hS1 => ?_)
  obtain ⟨a, hP1, hD1⟩ := hB
  rw [ht] at hP1
  obtain ⟨hP2, hD2⟩ := va_join (wr := wr) (w1 := w1 a) hP hD isC isR hC hR hn hdis hk1 hFc hP1 hD1
  rw [hw]
  exact kk H1 locs1 a hP2 hD2 hS1
theorem callq_ {a : Array Value} (hr : va_Run p l e R s m args below meth c H locs cells slots mc ms (F0 m pc ls st) rest (va_Qq (fun (r' : Option Nat) (_ : Unit) => r' = rq) (Pst0 G (va_A wc H.size) w1) (va_A wc H.size) a) (va_A wc H.size))
    (hP : va_P G vwCl ws H) (hD : va_D A ws) (hS : va_S A s.heap H locs) (hA : ∀ q, s.heap.size ≤ q → A q) (isC isR : List Nat) (hC : isC.map (fun i => ws[i]?) = wc.map some) (hR : isR.map (fun i => ws[i]?) = wr.map some) (hn : va_nd isR = true) (hdis : ∀ i ∈ isR, i ∉ isC)
    (kk : ∀ (H1 : Heap) (locs1 : List Loc) (a : Nat → Nat), va_P G vwCl (wr ++ w1 a) H1 → va_D A (wr ++ w1 a) → va_S A s.heap H1 locs1 → W p l e R s m args below meth c H1 locs1 (cells + mc) (slots + ms) Q (F0 m (pc + 3) ls (va_rf rq :: rest))) : W p l e R s m args below meth c H locs cells slots Q (F0 m pc ls st) := by
  have hFc := va_free (wc := wc) hD hS hA isC hC
  refine va_callq hr hS (fun q _ h => hFc q h) hFc (fun r' u t H1 locs1 ht hvm hw hB hz1 hk1 hS1 => ?_)
  obtain ⟨a, hP1, hD1⟩ := hB
  rw [ht] at hP1
  obtain ⟨hP2, hD2⟩ := va_join (wr := wr) (w1 := w1 a) hP hD isC isR hC hR hn hdis hk1 hFc hP1 hD1
  rw [hw]
  exact kk H1 locs1 a hP2 hD2 hS1
theorem callv_ {a : Array Value} (hr : va_Run p l e R s m args below meth c H locs cells slots mc ms (F0 m pc ls st) rest (va_Qv (fun (_ : Unit) => True) (Pst0 G (va_A wc H.size) w1) (va_A wc H.size) a) (va_A wc H.size))
    (hP : va_P G vwCl ws H) (hD : va_D A ws) (hS : va_S A s.heap H locs) (hA : ∀ q, s.heap.size ≤ q → A q) (isC isR : List Nat) (hC : isC.map (fun i => ws[i]?) = wc.map some) (hR : isR.map (fun i => ws[i]?) = wr.map some) (hn : va_nd isR = true) (hdis : ∀ i ∈ isR, i ∉ isC)
    (kk : ∀ (H1 : Heap) (locs1 : List Loc) (a : Nat → Nat), va_P G vwCl (wr ++ w1 a) H1 → va_D A (wr ++ w1 a) → va_S A s.heap H1 locs1 → W p l e R s m args below meth c H1 locs1 (cells + mc) (slots + ms) Q (F0 m (pc + 3) ls rest)) : W p l e R s m args below meth c H locs cells slots Q (F0 m pc ls st) := by
  have hFc := va_free (wc := wc) hD hS hA isC hC
  refine va_callv hr hS (fun q _ h => hFc q h) hFc (fun u t H1 locs1 ht hvm hw hB hz1 hk1 hS1 => ?_)
  obtain ⟨a, hP1, hD1⟩ := hB
  rw [ht] at hP1
  obtain ⟨hP2, hD2⟩ := va_join (wr := wr) (w1 := w1 a) hP hD isC isR hC hR hn hdis hk1 hFc hP1 hD1
  exact kk H1 locs1 a hP2 hD2 hS1
theorem fm_ {is : List Nat} (hC : is.map (fun i => ws[i]?) = wc.map some) : is.filterMap (fun i => ws[i]?) = wc := by
  have h1 : (is.map (fun i => ws[i]?)).filterMap id = is.filterMap (fun i => ws[i]?) := by rw [List.filterMap_map]; rfl
  have h2 : (wc.map some).filterMap id = wc := by rw [List.filterMap_map]; exact List.filterMap_some
  rw [← h1, hC, h2]
/-- a callee's cells out of ours, as its start wants them -/
theorem pre_ (hK : KK G E s) (hP : va_P G vwCl ws H) (hD : va_D A ws) (isC : List Nat) (hC : isC.map (fun i => ws[i]?) = wc.map some) (hnC : va_nd isC = true) (av : List Value) :
    ∀ U : State, U.heap = H → s.WarmedH U.vm → va_Pc av (Pre0 G E wc H.size) av.toArray U := fun U hU hW =>
  ⟨rfl, by rw [hU], by rw [hU]; exact hP.sub isC (fm_ hC), KK.warm hW hK, (hD.sub isC hnC hC).weaken (fun _ _ _ _ => trivial)⟩
theorem wsum_ (hW : (rest.map fun v => v.category).sum ≤ 8) : 2 * (F0 m pc ls st).monitorRoom + (rest.map fun v => v.category).sum ≤ 8 := lv_room hW
theorem cVi (S : CallFix p m c cc nL s args GT own) (hM : MI l G E y bytes maxL ty rm (.ref b :: As) wc r w1 rm.cells rm.slots) (hy : OkY y bytes maxL (some ty) n) (hv : OkV y) (hl : Cond.methodLink own index y ∈ GT) (hR : rm.frames + 1 ≤ R.frames ∧ 8 + (maxL + 11) + rm.locals ≤ R.locals) (hK : KK G E s) (hP : va_P G vwCl ws H) (hD : va_D A ws) (hS : va_S A s.heap H locs) (hA : ∀ q, s.heap.size ≤ q → A q) (isC isR : List Nat) (hC : isC.map (fun i => ws[i]?) = wc.map some) (hR2 : isR.map (fun i => ws[i]?) = wr.map some) (hnC : va_nd isC = true) (hn : va_nd isR = true) (hdis : ∀ i ∈ isR, i ∉ isC) (hrv : ∃ cellB : Cell, H[b]? = some cellB ∧ cellB.vm.isStatics = false ∧ s.vm.findClass y.cls = some cellB.cls)
    (hnA : As.length = n) (hsize : ls.size = nL) (hstack : st = As.reverse ++ .ref b :: rest) (hW : (rest.map fun v => v.category).sum ≤ 8) (hdg : decode cc pc = .ok (.invokevirtual index, 3)) (hf : cells + rm.cells ≤ R.cells ∧ slots + rm.slots ≤ R.slots)
    (kk : ∀ (H1 : Heap) (locs1 : List Loc) (a : Nat → Nat), va_P G vwCl (wr ++ w1 a) H1 → va_D A (wr ++ w1 a) → va_S A s.heap H1 locs1 → W p l e R s m args below meth c H1 locs1 (cells + rm.cells) (slots + rm.slots) Q (F0 m (pc + 3) ls (.int r :: rest))) : W p l e R s m args below meth c H locs cells slots Q (F0 m pc ls st) :=
  calli_ (va_runV (As := As) (rest := rest) S (hM H.size) ⟨(callB_of n S.2.2.2.2 (GT_c hy.1) rfl rfl rfl (S.2.2.2.2 _ hy.2.1) (S.2.2.2.2 _ hl) hy.2.2 hR), S.2.2.2.2 _ hv.1, S.2.2.2.2 _ hv.2⟩ ⟨Pre0.blind, hrv, pre_ hK hP hD isC hC hnC (.ref b :: As)⟩ rfl hnA hsize hstack (wsum_ hW) hdg hf) hP hD hS hA isC isR hC hR2 hn hdis kk
theorem cVr (S : CallFix p m c cc nL s args GT own) (hM : MR l G E y bytes maxL ty rm (.ref b :: As) wc rq w1 rm.cells rm.slots) (hy : OkY y bytes maxL (some ty) n) (hv : OkV y) (hl : Cond.methodLink own index y ∈ GT) (hR : rm.frames + 1 ≤ R.frames ∧ 8 + (maxL + 11) + rm.locals ≤ R.locals) (hK : KK G E s) (hP : va_P G vwCl ws H) (hD : va_D A ws) (hS : va_S A s.heap H locs) (hA : ∀ q, s.heap.size ≤ q → A q) (isC isR : List Nat) (hC : isC.map (fun i => ws[i]?) = wc.map some) (hR2 : isR.map (fun i => ws[i]?) = wr.map some) (hnC : va_nd isC = true) (hn : va_nd isR = true) (hdis : ∀ i ∈ isR, i ∉ isC) (hrv : ∃ cellB : Cell, H[b]? = some cellB ∧ cellB.vm.isStatics = false ∧ s.vm.findClass y.cls = some cellB.cls)
    (hnA : As.length = n) (hsize : ls.size = nL) (hstack : st = As.reverse ++ .ref b :: rest) (hW : (rest.map fun v => v.category).sum ≤ 8) (hdg : decode cc pc = .ok (.invokevirtual index, 3)) (hf : cells + rm.cells ≤ R.cells ∧ slots + rm.slots ≤ R.slots)
    (kk : ∀ (H1 : Heap) (locs1 : List Loc) (a : Nat → Nat), va_P G vwCl (wr ++ w1 a) H1 → va_D A (wr ++ w1 a) → va_S A s.heap H1 locs1 → W p l e R s m args below meth c H1 locs1 (cells + rm.cells) (slots + rm.slots) Q (F0 m (pc + 3) ls (va_rf rq :: rest))) : W p l e R s m args below meth c H locs cells slots Q (F0 m pc ls st) :=
  callq_ (va_runV (As := As) (rest := rest) S (hM H.size) ⟨(callB_of n S.2.2.2.2 (GT_c hy.1) rfl rfl rfl (S.2.2.2.2 _ hy.2.1) (S.2.2.2.2 _ hl) hy.2.2 hR), S.2.2.2.2 _ hv.1, S.2.2.2.2 _ hv.2⟩ ⟨Pre0.blind, hrv, pre_ hK hP hD isC hC hnC (.ref b :: As)⟩ rfl hnA hsize hstack (wsum_ hW) hdg hf) hP hD hS hA isC isR hC hR2 hn hdis kk
theorem cVv (S : CallFix p m c cc nL s args GT own) (hM : MV l G E y bytes maxL rm (.ref b :: As) wc w1 rm.cells rm.slots) (hy : OkY y bytes maxL none n) (hv : OkV y) (hl : Cond.methodLink own index y ∈ GT) (hR : rm.frames + 1 ≤ R.frames ∧ 8 + (maxL + 11) + rm.locals ≤ R.locals) (hK : KK G E s) (hP : va_P G vwCl ws H) (hD : va_D A ws) (hS : va_S A s.heap H locs) (hA : ∀ q, s.heap.size ≤ q → A q) (isC isR : List Nat) (hC : isC.map (fun i => ws[i]?) = wc.map some) (hR2 : isR.map (fun i => ws[i]?) = wr.map some) (hnC : va_nd isC = true) (hn : va_nd isR = true) (hdis : ∀ i ∈ isR, i ∉ isC) (hrv : ∃ cellB : Cell, H[b]? = some cellB ∧ cellB.vm.isStatics = false ∧ s.vm.findClass y.cls = some cellB.cls)
    (hnA : As.length = n) (hsize : ls.size = nL) (hstack : st = As.reverse ++ .ref b :: rest) (hW : (rest.map fun v => v.category).sum ≤ 8) (hdg : decode cc pc = .ok (.invokevirtual index, 3)) (hf : cells + rm.cells ≤ R.cells ∧ slots + rm.slots ≤ R.slots)
    (kk : ∀ (H1 : Heap) (locs1 : List Loc) (a : Nat → Nat), va_P G vwCl (wr ++ w1 a) H1 → va_D A (wr ++ w1 a) → va_S A s.heap H1 locs1 → W p l e R s m args below meth c H1 locs1 (cells + rm.cells) (slots + rm.slots) Q (F0 m (pc + 3) ls (rest))) : W p l e R s m args below meth c H locs cells slots Q (F0 m pc ls st) :=
  callv_ (va_runV (As := As) (rest := rest) S (hM H.size) ⟨(callB_of n S.2.2.2.2 (GT_c hy.1) rfl rfl rfl (S.2.2.2.2 _ hy.2.1) (S.2.2.2.2 _ hl) hy.2.2 hR), S.2.2.2.2 _ hv.1, S.2.2.2.2 _ hv.2⟩ ⟨Pre0.blind, hrv, pre_ hK hP hD isC hC hnC (.ref b :: As)⟩ rfl hnA hsize hstack (wsum_ hW) hdg hf) hP hD hS hA isC isR hC hR2 hn hdis kk
theorem cSi (S : CallFix p m c cc nL s args GT own) (hM : MI l G E y bytes maxL ty rm (As) wc r w1 rm.cells rm.slots) (hy : OkY y bytes maxL (some ty) n) (hv : Cond.static y ∈ GT) (hl : Cond.methodLink own index y ∈ GT) (hR : rm.frames + 1 ≤ R.frames ∧ 8 + (maxL + 11) + rm.locals ≤ R.locals) (hK : KK G E s) (hP : va_P G vwCl ws H) (hD : va_D A ws) (hS : va_S A s.heap H locs) (hA : ∀ q, s.heap.size ≤ q → A q) (isC isR : List Nat) (hC : isC.map (fun i => ws[i]?) = wc.map some) (hR2 : isR.map (fun i => ws[i]?) = wr.map some) (hnC : va_nd isC = true) (hn : va_nd isR = true) (hdis : ∀ i ∈ isR, i ∉ isC)
    (hnA : As.length = n) (hsize : ls.size = nL) (hstack : st = As.reverse ++ rest) (hW : (rest.map fun v => v.category).sum ≤ 8) (hdg : decode cc pc = .ok (.invokestatic index, 3)) (hf : cells + rm.cells ≤ R.cells ∧ slots + rm.slots ≤ R.slots)
    (kk : ∀ (H1 : Heap) (locs1 : List Loc) (a : Nat → Nat), va_P G vwCl (wr ++ w1 a) H1 → va_D A (wr ++ w1 a) → va_S A s.heap H1 locs1 → W p l e R s m args below meth c H1 locs1 (cells + rm.cells) (slots + rm.slots) Q (F0 m (pc + 3) ls (.int r :: rest))) : W p l e R s m args below meth c H locs cells slots Q (F0 m pc ls st) :=
  calli_ (va_runS (As := As) (rest := rest) S (hM H.size) ⟨(callB_of n S.2.2.2.2 (GT_c hy.1) rfl rfl rfl (S.2.2.2.2 _ hy.2.1) (S.2.2.2.2 _ hl) hy.2.2 hR), S.2.2.2.2 _ hv⟩ ⟨Pre0.blind, pre_ hK hP hD isC hC hnC (As)⟩ rfl hnA hsize hstack (wsum_ hW) hdg hf) hP hD hS hA isC isR hC hR2 hn hdis kk
theorem cSv (S : CallFix p m c cc nL s args GT own) (hM : MV l G E y bytes maxL rm (As) wc w1 rm.cells rm.slots) (hy : OkY y bytes maxL none n) (hv : Cond.static y ∈ GT) (hl : Cond.methodLink own index y ∈ GT) (hR : rm.frames + 1 ≤ R.frames ∧ 8 + (maxL + 11) + rm.locals ≤ R.locals) (hK : KK G E s) (hP : va_P G vwCl ws H) (hD : va_D A ws) (hS : va_S A s.heap H locs) (hA : ∀ q, s.heap.size ≤ q → A q) (isC isR : List Nat) (hC : isC.map (fun i => ws[i]?) = wc.map some) (hR2 : isR.map (fun i => ws[i]?) = wr.map some) (hnC : va_nd isC = true) (hn : va_nd isR = true) (hdis : ∀ i ∈ isR, i ∉ isC)
    (hnA : As.length = n) (hsize : ls.size = nL) (hstack : st = As.reverse ++ rest) (hW : (rest.map fun v => v.category).sum ≤ 8) (hdg : decode cc pc = .ok (.invokestatic index, 3)) (hf : cells + rm.cells ≤ R.cells ∧ slots + rm.slots ≤ R.slots)
    (kk : ∀ (H1 : Heap) (locs1 : List Loc) (a : Nat → Nat), va_P G vwCl (wr ++ w1 a) H1 → va_D A (wr ++ w1 a) → va_S A s.heap H1 locs1 → W p l e R s m args below meth c H1 locs1 (cells + rm.cells) (slots + rm.slots) Q (F0 m (pc + 3) ls (rest))) : W p l e R s m args below meth c H locs cells slots Q (F0 m pc ls st) :=
  callv_ (va_runS (As := As) (rest := rest) S (hM H.size) ⟨(callB_of n S.2.2.2.2 (GT_c hy.1) rfl rfl rfl (S.2.2.2.2 _ hy.2.1) (S.2.2.2.2 _ hl) hy.2.2 hR), S.2.2.2.2 _ hv⟩ ⟨Pre0.blind, pre_ hK hP hD isC hC hnC (As)⟩ rfl hnA hsize hstack (wsum_ hW) hdg hf) hP hD hS hA isC isR hC hR2 hn hdis kk
theorem cSNi (S : CallFix p m c cc nL s args GT own) (hM : MI l G E y bytes maxL ty rm (As) wc r w1 rm.cells rm.slots) (hy : OkY y bytes maxL (some ty) n) (hv : Cond.static y ∈ GT) (hl : va_Nw (.methodLinkNest own index y host) s) (hR : rm.frames + 1 ≤ R.frames ∧ 8 + (maxL + 11) + rm.locals ≤ R.locals) (hK : KK G E s) (hP : va_P G vwCl ws H) (hD : va_D A ws) (hS : va_S A s.heap H locs) (hA : ∀ q, s.heap.size ≤ q → A q) (isC isR : List Nat) (hC : isC.map (fun i => ws[i]?) = wc.map some) (hR2 : isR.map (fun i => ws[i]?) = wr.map some) (hnC : va_nd isC = true) (hn : va_nd isR = true) (hdis : ∀ i ∈ isR, i ∉ isC)
    (hnA : As.length = n) (hsize : ls.size = nL) (hstack : st = As.reverse ++ rest) (hW : (rest.map fun v => v.category).sum ≤ 8) (hdg : decode cc pc = .ok (.invokestatic index, 3)) (hf : cells + rm.cells ≤ R.cells ∧ slots + rm.slots ≤ R.slots)
    (kk : ∀ (H1 : Heap) (locs1 : List Loc) (a : Nat → Nat), va_P G vwCl (wr ++ w1 a) H1 → va_D A (wr ++ w1 a) → va_S A s.heap H1 locs1 → W p l e R s m args below meth c H1 locs1 (cells + rm.cells) (slots + rm.slots) Q (F0 m (pc + 3) ls (.int r :: rest))) : W p l e R s m args below meth c H locs cells slots Q (F0 m pc ls st) :=
  calli_ (va_runSN (As := As) (rest := rest) S (hM H.size) ⟨(va_cnB n S.2.2.2.2 (GT_c hy.1) rfl rfl rfl hl (S.2.2.2.2 _ hy.2.1) hy.2.2 hR), S.2.2.2.2 _ hv, trivial⟩ ⟨Pre0.blind, pre_ hK hP hD isC hC hnC (As)⟩ rfl hnA hsize hstack (wsum_ hW) hdg hf) hP hD hS hA isC isR hC hR2 hn hdis kk
theorem cIv (S : CallFix p m c cc nL s args GT own) (hM : MV l G E y bytes maxL rm (.ref b :: As) wc w1 rm.cells rm.slots) (hy : OkY y bytes maxL none n) (hv : Cond.instanceMethod y ∈ GT ∧ y.name = "<init>") (hl : Cond.methodLink own index y ∈ GT) (hR : rm.frames + 1 ≤ R.frames ∧ 8 + (maxL + 11) + rm.locals ≤ R.locals) (hK : KK G E s) (hP : va_P G vwCl ws H) (hD : va_D A ws) (hS : va_S A s.heap H locs) (hA : ∀ q, s.heap.size ≤ q → A q) (isC isR : List Nat) (hC : isC.map (fun i => ws[i]?) = wc.map some) (hR2 : isR.map (fun i => ws[i]?) = wr.map some) (hnC : va_nd isC = true) (hn : va_nd isR = true) (hdis : ∀ i ∈ isR, i ∉ isC)
    (hnA : As.length = n) (hsize : ls.size = nL) (hstack : st = As.reverse ++ .ref b :: rest) (hW : (rest.map fun v => v.category).sum ≤ 8) (hdg : decode cc pc = .ok (.invokespecial index, 3)) (hf : cells + rm.cells ≤ R.cells ∧ slots + rm.slots ≤ R.slots)
    (kk : ∀ (H1 : Heap) (locs1 : List Loc) (a : Nat → Nat), va_P G vwCl (wr ++ w1 a) H1 → va_D A (wr ++ w1 a) → va_S A s.heap H1 locs1 → W p l e R s m args below meth c H1 locs1 (cells + rm.cells) (slots + rm.slots) Q (F0 m (pc + 3) ls (rest))) : W p l e R s m args below meth c H locs cells slots Q (F0 m pc ls st) :=
  callv_ (va_runI (As := As) (rest := rest) S (hM H.size) ⟨(callB_of n S.2.2.2.2 (GT_c hy.1) rfl rfl rfl (S.2.2.2.2 _ hy.2.1) (S.2.2.2.2 _ hl) hy.2.2 hR), hv.2, S.2.2.2.2 _ hv.1⟩ ⟨Pre0.blind, pre_ hK hP hD isC hC hnC (.ref b :: As)⟩ rfl hnA hsize hstack (wsum_ hW) hdg hf) hP hD hS hA isC isR hC hR2 hn hdis kk
theorem cINv (S : CallFix p m c cc nL s args GT own) (hM : MV l G E y bytes maxL rm (.ref b :: As) wc w1 rm.cells rm.slots) (hy : OkY y bytes maxL none n) (hv : Cond.instanceMethod y ∈ GT ∧ y.name = "<init>") (hl : va_Nw (.methodLinkNest own index y host) s) (hR : rm.frames + 1 ≤ R.frames ∧ 8 + (maxL + 11) + rm.locals ≤ R.locals) (hK : KK G E s) (hP : va_P G vwCl ws H) (hD : va_D A ws) (hS : va_S A s.heap H locs) (hA : ∀ q, s.heap.size ≤ q → A q) (isC isR : List Nat) (hC : isC.map (fun i => ws[i]?) = wc.map some) (hR2 : isR.map (fun i => ws[i]?) = wr.map some) (hnC : va_nd isC = true) (hn : va_nd isR = true) (hdis : ∀ i ∈ isR, i ∉ isC)
    (hnA : As.length = n) (hsize : ls.size = nL) (hstack : st = As.reverse ++ .ref b :: rest) (hW : (rest.map fun v => v.category).sum ≤ 8) (hdg : decode cc pc = .ok (.invokespecial index, 3)) (hf : cells + rm.cells ≤ R.cells ∧ slots + rm.slots ≤ R.slots)
    (kk : ∀ (H1 : Heap) (locs1 : List Loc) (a : Nat → Nat), va_P G vwCl (wr ++ w1 a) H1 → va_D A (wr ++ w1 a) → va_S A s.heap H1 locs1 → W p l e R s m args below meth c H1 locs1 (cells + rm.cells) (slots + rm.slots) Q (F0 m (pc + 3) ls (rest))) : W p l e R s m args below meth c H locs cells slots Q (F0 m pc ls st) :=
  callv_ (va_runIN (As := As) (rest := rest) S (hM H.size) ⟨(va_cnB n S.2.2.2.2 (GT_c hy.1) rfl rfl rfl hl (S.2.2.2.2 _ hy.2.1) hy.2.2 hR), hv.2, S.2.2.2.2 _ hv.1⟩ ⟨Pre0.blind, pre_ hK hP hD isC hC hnC (.ref b :: As)⟩ rfl hnA hsize hstack (wsum_ hW) hdg hf) hP hD hS hA isC isR hC hR2 hn hdis kk
end CALLS
/-! ===== the pure side: an answer, or none ===== -/
section PURE
variable {α β : Type}
/-- an index that must lie in its row -/
def gin (i : Int32) (n : Nat) (k : Option α) : Option α := if i < 0 ∨ n ≤ i.toNatClampNeg then none else k
theorem gin_t {i : Int32} {n : Nat} {k : Option α} {r : α} (h : gin i n k = some r) : vp_in i n ∧ k = some r := by
  unfold gin at h
  by_cases c : i < 0 ∨ n ≤ i.toNatClampNeg
  · rw [if_pos c] at h; cases h
  · rw [if_neg c] at h; exact ⟨c, h⟩
/-- a divisor that must not be 0 -/
def gnz (y : Int32) (k : Option α) : Option α := if y = 0 then none else k
theorem gnz_t {y : Int32} {k : Option α} {r : α} (h : gnz y k = some r) : ¬ y = 0 ∧ k = some r := by
  unfold gnz at h
  by_cases c : y = 0
  · rw [if_pos c] at h; cases h
  · rw [if_neg c] at h; exact ⟨c, h⟩
/-- a boolean that must be 0 or 1 -/
def gbo (y : Int32) (k : Option α) : Option α := if y = 0 ∨ y = 1 then k else none
theorem gbo_t {y : Int32} {k : Option α} {r : α} (h : gbo y k = some r) : (y = 0 ∨ y = 1) ∧ k = some r := by
  unfold gbo at h
  by_cases c : y = 0 ∨ y = 1
  · rw [if_pos c] at h; exact ⟨c, h⟩
  · rw [if_neg c] at h; cases h
theorem bo_nar {y : Int32} (h : y = 0 ∨ y = 1) : narrow .boolean (.int y) = .int y := by
  rcases h with rfl | rfl <;> rfl
theorem bo_fit {y : Int32} (h : y = 0 ∨ y = 1) : fits .boolean (.int y) = true := by
  rcases h with rfl | rfl <;> rfl
/-- a call -/
def bd (o : Option α) (k : α → Option β) : Option β := match o with
  | none => none
  | some u => k u
theorem bd_t {o : Option α} {k : α → Option β} {r : β} (h : bd o k = some r) : ∃ u, o = some u ∧ k u = some r := by
  cases o with
  | none => cases h
  | some u => exact ⟨u, rfl, h⟩
/-- a name -/
def bn (e : α) (k : α → Option β) : Option β := k e
theorem bn_t {e x : α} {k : α → Option β} {r : Option β} (h : bn e k = r) (ex : x = e) : k x = r := by
  subst ex; exact h
theorem if_t {c : Prop} {d : Decidable c} {a b : α} {r : α} (h : @ite α c d a b = r) (hc : c) : a = r := by
  rw [if_pos hc] at h; exact h
theorem if_f {c : Prop} {d : Decidable c} {a b : α} {r : α} (h : @ite α c d a b = r) (hc : ¬ c) : b = r := by
  rw [if_neg hc] at h; exact h
end PURE
def i_ushr (x y : Int32) : Int32 := (x.toUInt32 >>> (y.toUInt32 &&& Int32.toUInt32 31)).toInt32
def l_ushr (x : Int64) (y : Int32) : Int64 := (x.toUInt64 >>> (y.toInt64.toUInt64 &&& Int64.toUInt64 63)).toInt64
def l_shr (x : Int64) (y : Int32) : Int64 := x >>> (y.toInt64 &&& 63)
def l_shl (x : Int64) (y : Int32) : Int64 := x <<< (y.toInt64 &&& 63)
def i_rem (x y : Int32) : Int32 := x - x / y * y
def i_min (x y : Int32) : Int32 := if y < x then y else x
def i_max (x y : Int32) : Int32 := if x < y then y else x
