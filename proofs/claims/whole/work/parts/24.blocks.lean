/-! ===== worlds in blocks; a contract over more cells than it asks for ===== -/
section BLOCKS
variable {G : va_G} {E : ClassId × ClassId × ClassId} {A : Nat → Prop} {x y z : va_W} {H H1 : Heap}
theorem gl_ {k : Nat} {q : Nat × va_E} (hk : x[k]? = some q) : (x ++ y)[k]? = some q := by
  rw [List.getElem?_append_left (List.getElem?_eq_some_iff.mp hk).1]; exact hk
theorem gr_ {k : Nat} {q : Nat × va_E} (hk : y[k]? = some q) : (x ++ y)[x.length + k]? = some q := by
  rw [List.getElem?_append_right (Nat.le_add_right _ _), Nat.add_sub_cancel_left]; exact hk
theorem P_l (h : va_P G vwCl (x ++ y) H) : va_P G vwCl x H := fun k q hk => h k q (gl_ hk)
theorem P_r (h : va_P G vwCl (x ++ y) H) : va_P G vwCl y H := fun k q hk => h (x.length + k) q (gr_ hk)
theorem D_l (h : va_D A (x ++ y)) : va_D A x := ⟨fun i j p q hi hj e => h.1 i j p q (gl_ hi) (gl_ hj) e, fun k q hk => h.2 k q (gl_ hk)⟩
theorem D_r (h : va_D A (x ++ y)) : va_D A y := ⟨fun i j p q hi hj e => by
  have := h.1 (x.length + i) (x.length + j) p q (gr_ hi) (gr_ hj) e
  omega, fun k q hk => h.2 (x.length + k) q (gr_ hk)⟩
theorem D_x (h : va_D A (x ++ y)) : ∀ (i j : Nat) (p q : Nat × va_E), x[i]? = some p → y[j]? = some q → p.1 ≠ q.1 := fun i j p q hi hj e => by
  have h1 := h.1 i (x.length + j) p q (gl_ hi) (gr_ hj) e
  have h2 := (List.getElem?_eq_some_iff.mp hi).1
  omega
theorem P_3 (h : va_P G vwCl (x ++ (y ++ z)) H) : va_P G vwCl (y ++ (x ++ z)) H := (P_l (P_r h)).app ((P_l h).app (P_r (P_r h)))
theorem D_3 (h : va_D A (x ++ (y ++ z))) : va_D A (y ++ (x ++ z)) := by
  have hxyz := D_x h
  have hyz := D_x (D_r h)
  have hxz : va_D A (x ++ z) := va_D.app (D_l h) (D_r (D_r h)) (fun i j p q hi hj => hxyz i (y.length + j) p q hi (gr_ hj))
  refine va_D.app (D_l (D_r h)) hxz (fun i j p q hi hj e => ?_)
  by_cases hl : j < x.length
  · rw [List.getElem?_append_left hl] at hj
    exact hxyz j i q p hj (gl_ hi) e.symm
  · rw [List.getElem?_append_right (by omega)] at hj
    exact hyz i _ p q hi hj e
theorem blk_free {s : State} {locs : List Loc} (hD : va_D A (x ++ y)) (hS : va_S A s.heap H locs) (hA : ∀ q, s.heap.size ≤ q → A q) : ∀ q, va_A x H.size q → A q := fun q hq => by
  rcases hq with ⟨k, e, hk⟩ | hq
  · exact hD.2 k (q, e) (gl_ hk)
  · exact hA q (Nat.le_trans hS.1 hq)
theorem blk_join {x1 : va_W} (hP : va_P G vwCl (x ++ y) H) (hD : va_D A (x ++ y)) (hk : ∀ q : Nat, q < H.size → ¬ va_A x H.size q → H1[q]? = H[q]?) (hF : ∀ q, va_A x H.size q → A q) (hP1 : va_P G vwCl x1 H1) (hD1 : va_D (va_A x H.size) x1) : va_P G vwCl (x1 ++ y) H1 ∧ va_D A (x1 ++ y) := by
  have hout : ∀ (k : Nat) (q : Nat × va_E), y[k]? = some q → ¬ va_A x H.size q.1 := by
    intro k q hq hz
    rcases hz with ⟨i, e, hi⟩ | hz
    · exact D_x hD i k (q.1, e) q hi hq rfl
    · have := (P_r hP k q hq).lt
      omega
  refine ⟨hP1.app (fun k q hq => (P_r hP k q hq).kept (hk q.1 (P_r hP k q hq).lt (hout k q hq))), va_D.app (hD1.weaken (fun k q hq h => hF _ h)) (D_r hD) (fun i j p q hi hj e => ?_)⟩
  exact hout j q hj (by rw [← e]; exact hD1.2 i p hi)
/-- the frame, for a contract -/
theorem fr_ {wc ws wr : va_W} {w1 w2 : (Nat → Nat) → va_W} {ga : (Nat → Nat) → Nat → Nat} {st t : State} {sz : Nat} (hsz : st.heap.size = sz) (hP : va_P G vwCl ws st.heap) (hD0 : va_D (fun _ => True) ws) (isC isR isP : List Nat) (hC : isC.map (fun i => ws[i]?) = wc.map some) (hR : isR.map (fun i => ws[i]?) = wr.map some) (hn : va_nd isR = true) (hdis : ∀ i ∈ isR, i ∉ isC) (hnP : va_nd isP = true)
    (hw : ∀ a, isP.map (fun i => (wr ++ w1 a)[i]?) = (w2 (ga a)).map some) (hB : Pst0 G (va_A wc sz) w1 () t) (hF : va_F (va_A wc sz) st t) : Pst0 G (va_A ws sz) w2 () t ∧ va_F (va_A ws sz) st t ∧ ∀ q, va_A wc sz q → va_A ws sz q := by
  have hsub : ∀ q, va_A wc sz q → va_A ws sz q := by
    have h1 := va_free (wc := wc) (ws := ws) (A0 := va_A ws sz) (H0 := st.heap) (H := st.heap) (locs := []) (hD0.self) va_S.rf (fun q h => Or.inr (by rw [← hsz]; exact h)) isC hC
    rw [hsz] at h1
    exact h1
  obtain ⟨a, hP1, hD1⟩ := hB
  have hj := va_join (A0 := va_A ws sz) (H := st.heap) (H1 := t.heap) (wr := wr) (w1 := w1 a) hP hD0.self isC isR hC hR hn hdis (by rw [hsz]; exact fun q h1 h2 => hF.2 q (by rw [hsz]; exact h1) h2) (by rw [hsz]; exact hsub) hP1 (by rw [hsz]; exact hD1)
  exact ⟨⟨ga a, hj.1.sub isP (fm_ (hw a)), hj.2.sub isP hnP (hw a)⟩, ⟨hF.1, fun q h1 h2 => hF.2 q h1 (fun z => h2 (hsub q z))⟩, hsub⟩
theorem MI_fr {l : Launch} {yn : MethodName} {cc : ByteArray} {maxL : Nat} {ty : FieldType} {rm : Room} {av : List Value} {wc ws wr : va_W} {r : Int32} {w1 w2 : (Nat → Nat) → va_W} {mc ms : Nat} (h : MI l G E yn cc maxL ty rm av wc r w1 mc ms) (isC isR isP : List Nat) (hC : isC.map (fun i => ws[i]?) = wc.map some) (hR : isR.map (fun i => ws[i]?) = wr.map some) (hnC : va_nd isC = true) (hn : va_nd isR = true) (hdis : ∀ i ∈ isR, i ∉ isC) (hnP : va_nd isP = true) (ga : (Nat → Nat) → Nat → Nat)
    (hw : ∀ a, isP.map (fun i => (wr ++ w1 a)[i]?) = (w2 (ga a)).map some) : MI l G E yn cc maxL ty rm av ws r w2 mc ms := by
  intro sz
  refine MetFree.mono (h sz) (fun a st hp => ?_) (fun _ _ _ _ _ k => k) (fun a st o t hp hq => ?_)
  · obtain ⟨e1, e2, e3, e4, e5⟩ := hp
    exact ⟨e1, e2, e3.sub isC (fm_ hC), e4, e5.sub isC hnC hC⟩
  · obtain ⟨e1, e2, e3, e4, e5⟩ := hp
    obtain ⟨⟨⟨r', u, ho, hr, hB⟩, hF⟩, L, hL, hf⟩ := hq
    obtain ⟨h1, h2, h3⟩ := fr_ (w2 := w2) (ga := ga) e2 e3 e5 isC isR isP hC hR hn hdis hnP hw hB hF
    exact ⟨⟨⟨r', u, ho, hr, h1⟩, h2⟩, L, hL, fun q hq => h3 _ (hf q hq)⟩
theorem MV_fr {l : Launch} {yn : MethodName} {cc : ByteArray} {maxL : Nat} {rm : Room} {av : List Value} {wc ws wr : va_W} {w1 w2 : (Nat → Nat) → va_W} {mc ms : Nat} (h : MV l G E yn cc maxL rm av wc w1 mc ms) (isC isR isP : List Nat) (hC : isC.map (fun i => ws[i]?) = wc.map some) (hR : isR.map (fun i => ws[i]?) = wr.map some) (hnC : va_nd isC = true) (hn : va_nd isR = true) (hdis : ∀ i ∈ isR, i ∉ isC) (hnP : va_nd isP = true) (ga : (Nat → Nat) → Nat → Nat)
    (hw : ∀ a, isP.map (fun i => (wr ++ w1 a)[i]?) = (w2 (ga a)).map some) : MV l G E yn cc maxL rm av ws w2 mc ms := by
  intro sz
  refine MetFree.mono (h sz) (fun a st hp => ?_) (fun _ _ _ _ _ k => k) (fun a st o t hp hq => ?_)
  · obtain ⟨e1, e2, e3, e4, e5⟩ := hp
    exact ⟨e1, e2, e3.sub isC (fm_ hC), e4, e5.sub isC hnC hC⟩
  · obtain ⟨e1, e2, e3, e4, e5⟩ := hp
    obtain ⟨⟨⟨u, ho, hr, hB⟩, hF⟩, L, hL, hf⟩ := hq
    obtain ⟨h1, h2, h3⟩ := fr_ (w2 := w2) (ga := ga) e2 e3 e5 isC isR isP hC hR hn hdis hnP hw hB hF
    exact ⟨⟨⟨u, ho, hr, h1⟩, h2⟩, L, hL, fun q hq => h3 _ (hf q hq)⟩
section BC
variable {p : Program} {l : Launch} {e : Env} {R : Room} {s : State} {m : MethodId} {args : Array Value} {below : List Frame} {meth : Method} {c : Code} {locs : List Loc} {cells slots : Nat} {Q : State → Prop}
variable {yn : MethodName} {bytes cc : ByteArray} {maxL nL n index pc : Nat} {ty : FieldType} {rm : Room} {own : String} {b : Addr} {As rest st : List Value} {ls : Array Slot} {x1 : (Nat → Nat) → va_W} {r : Int32}
/-- a call on the first block -/
theorem bVi (S : CallFix p m c cc nL s args GT own) (hM : MI l G E yn bytes maxL ty rm (.ref b :: As) x r x1 rm.cells rm.slots) (hy : OkY yn bytes maxL (some ty) n) (hv : OkV yn) (hl : Cond.methodLink own index yn ∈ GT) (hR : rm.frames + 1 ≤ R.frames ∧ 8 + (maxL + 11) + rm.locals ≤ R.locals) (hK : KK G E s) (hP : va_P G vwCl (x ++ y) H) (hD : va_D A (x ++ y)) (hS : va_S A s.heap H locs) (hA : ∀ q, s.heap.size ≤ q → A q)
    (hrv : ∃ cellB : Cell, H[b]? = some cellB ∧ cellB.vm.isStatics = false ∧ s.vm.findClass yn.cls = some cellB.cls)
    (hnA : As.length = n) (hsize : ls.size = nL) (hstack : st = As.reverse ++ .ref b :: rest) (hW : (rest.map fun v => v.category).sum ≤ 8) (hdg : decode cc pc = .ok (.invokevirtual index, 3)) (hf : cells + rm.cells ≤ R.cells ∧ slots + rm.slots ≤ R.slots)
    (kk : ∀ (H1 : Heap) (locs1 : List Loc) (a : Nat → Nat), va_P G vwCl (x1 a ++ y) H1 → va_D A (x1 a ++ y) → va_S A s.heap H1 locs1 → W p l e R s m args below meth c H1 locs1 (cells + rm.cells) (slots + rm.slots) Q (F0 m (pc + 3) ls (.int r :: rest))) : W p l e R s m args below meth c H locs cells slots Q (F0 m pc ls st) := by
  have hFc := blk_free hD hS hA
  refine va_calli (va_runV (As := As) (rest := rest) S (hM H.size) ⟨callB_of n S.2.2.2.2 (GT_c hy.1) rfl rfl rfl (S.2.2.2.2 _ hy.2.1) (S.2.2.2.2 _ hl) hy.2.2 hR, S.2.2.2.2 _ hv.1, S.2.2.2.2 _ hv.2⟩ ⟨Pre0.blind, hrv, fun U hU hW => ⟨rfl, by rw [hU], by rw [hU]; exact P_l hP, KK.warm hW hK, (D_l hD).weaken (fun _ _ _ _ => trivial)⟩⟩ rfl hnA hsize hstack (wsum_ hW) hdg hf) hS (fun q _ h => hFc q h) hFc (fun r' u t H1 locs1 ht hvm hw hB hz1 hk1 hS1 => ?_)
  obtain ⟨a, hP1, hD1⟩ := hB
  rw [ht] at hP1
  obtain ⟨hP2, hD2⟩ := blk_join hP hD hk1 hFc hP1 hD1
  rw [hw]
  exact kk H1 locs1 a hP2 hD2 hS1
end BC
end BLOCKS
