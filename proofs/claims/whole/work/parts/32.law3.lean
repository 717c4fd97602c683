def pm_init (Rl : (Nat → Int32) → (Nat → Nat → Int32) → (Nat → Int32) → (Nat → Nat → Int32) → Prop) (N : Nat) : Prop := ∀ (i1 i2 i3 : Int32), ∃ (o0 : Int32) (o1 : Int32) (o2 : Int32) (o3 : (Nat → Int32)) (o4 : Int32) (o5 : Int32) (o6 : (Nat → Int32)) (o7 : Int32) (o8 : Int32) (o9 : Int32) (o10 : (Nat → Int32)) (q0 : Int32) (q1 : Int32) (q2 : Int32) (q3 : Int32) (q4 : (Nat → Int32)), f_X7_init N i1 i2 i3 = some (o0, o1, o2, o3, o4, o5, o6, o7, o8, o9, o10) ∧ f_X8_init N i1 i2 i3 = some (q0, q1, q2, q3, q4) ∧ Rl (fun k => [(0 : Int32), (0 : Int32), (0 : Int32), (0 : Int32), o4, o5, o0, o1, o2, o7, o8, o9, (0 : Int32), (0 : Int32), (0 : Int32), (0 : Int32), (0 : Int32), (0 : Int32), (0 : Int32), (0 : Int32), (0 : Int32), (0 : Int32), (0 : Int32), (0 : Int32), (0 : Int32), (0 : Int32), (0 : Int32), (0 : Int32), (0 : Int32), (0 : Int32), (0 : Int32), (0 : Int32), (0 : Int32), (0 : Int32), (0 : Int32), (0 : Int32), (0 : Int32), (0 : Int32)].getD k 0) (fun k => [o6, o3, (fun _ => 0), (fun _ => 0), (fun _ => 0), o10, (fun _ => 0), (fun _ => 0), (fun _ => 0), (fun _ => 0), (fun _ => 0), (fun _ => 0), (fun _ => 0), (fun _ => 0), (fun _ => 0), (fun _ => 0), (fun _ => 0), (fun _ => 0), (fun _ => 0), (fun _ => 0), (fun _ => 0), (fun _ => 0), (fun _ => 0), (fun _ => 0), (fun _ => 0), (fun _ => 0), (fun _ => 0), (fun _ => 0), (fun _ => 0), (fun _ => 0), (fun _ => 0), (fun _ => 0), (fun _ => 0)].getD k (fun _ => 0)) (fun k => [(0 : Int32), q0, q1, q2, q3, (0 : Int32), (0 : Int32), (0 : Int32), (0 : Int32), (0 : Int32), (0 : Int32), (0 : Int32), (0 : Int32), (0 : Int32), (0 : Int32), (0 : Int32), (0 : Int32), (0 : Int32), (0 : Int32), (0 : Int32), (0 : Int32), (0 : Int32), (0 : Int32), (0 : Int32)].getD k 0) (fun k => [q4, (fun _ => 0), (fun _ => 0), (fun _ => 0), (fun _ => 0), (fun _ => 0), (fun _ => 0), (fun _ => 0), (fun _ => 0), (fun _ => 0), (fun _ => 0), (fun _ => 0), (fun _ => 0), (fun _ => 0), (fun _ => 0), (fun _ => 0), (fun _ => 0), (fun _ => 0), (fun _ => 0), (fun _ => 0), (fun _ => 0), (fun _ => 0), (fun _ => 0)].getD k (fun _ => 0))
def PMS (Rl : (Nat → Int32) → (Nat → Nat → Int32) → (Nat → Int32) → (Nat → Nat → Int32) → Prop) (N : Nat) : Prop := pm_peek Rl N ∧ pm_poke Rl N ∧ pm_resize Rl N ∧ pm_push Rl N ∧ pm_pop Rl N ∧ pm_block Rl N ∧ pm_free Rl N ∧ pm_protect Rl N ∧ pm_save Rl N ∧ pm_load Rl N ∧ pm_fault Rl N ∧ pm_mark Rl N ∧ pm_undo Rl N ∧ pm_restart Rl N ∧ pm_at Rl N ∧ pm_alter Rl N ∧ pm_cut Rl N ∧ pm_more Rl N ∧ pm_seal Rl N ∧ pm_count Rl N ∧ pm_hash Rl N
set_option maxHeartbeats 4000000 in
set_option maxRecDepth 100000 in
theorem law_loop {p : Program} {l : Launch} {e : Env} {s : State} {m : MethodId} {below : List Frame} {meth : Method} {c : Code} {G : va_G} {E : ClassId × ClassId × ClassId} {b0 L : Nat} {xs : Nat → Int32} (C : LX p s m c G E b0 L xs) (hr : meth.sig.returnType = ret) (hlocks : meth.locks = false) (hl0 : l.stackTraces = false) {sa : Nat} (hT : TK (fun q : Nat => s.heap.size ≤ q) sa s s.heap) (N : Nat) {Rl : (Nat → Int32) → (Nat → Nat → Int32) → (Nat → Int32) → (Nat → Nat → Int32) → Prop} (hpm : PMS Rl N) (hL : L ≤ 2051) {ho : Nat} : ∀ (n i cs ss : Nat), i ≤ 2600 → L ≤ i + 4 * n → cs + n ≤ 601024 → ss + 6 * n ≤ 7293000 → ∀ (a b : Nat → Nat) (I : Nat → Int32) (R : Nat → Nat → Int32) (J : Nat → Int32) (S : Nat → Nat → Int32) (f : Nat → Int64) (H : Heap) (locs : List Loc) (ls : Array Slot), Rl I R J S → va_P G vwCl (LW E a I R b J S ho f) H → va_D (fun q : Nat => s.heap.size ≤ q) (LW E a I R b J S ho f) → va_S (fun q : Nat => s.heap.size ≤ q) s.heap H locs → lv_has ls 7 [(0, .ref b0), (1, .ref (a 0)), (2, .ref (b 0)), (3, .ref ho), (4, .int (nI i))] → W p l e room_1 s m #[Value.ref b0] below meth c H locs (cs) (ss) (lw_Z below #[Value.ref b0] s) (F0 m 53 ls []) := by
  obtain ⟨hx, hb, hml, hown, hts, hK, hX, hbl⟩ := id C
  have hA : ∀ q : Nat, s.heap.size ≤ q → (fun q : Nat => s.heap.size ≤ q) q := fun _ h => h
  have hbA : ¬ (fun q : Nat => s.heap.size ≤ q) b0 := Nat.not_le.mpr hbl
  obtain ⟨p_peek, p_poke, p_resize, p_push, p_pop, p_block, p_free, p_protect, p_save, p_load, p_fault, p_mark, p_undo, p_restart, p_at, p_alter, p_cut, p_more, p_seal, p_count, p_hash⟩ := hpm
  have hend : ∀ (cs ss : Nat), cs ≤ 601024 → ss ≤ 7293000 → ∀ (H : Heap) (locs : List Loc) (ls : Array Slot), va_S (fun q : Nat => s.heap.size ≤ q) s.heap H locs → W p l e room_1 s m #[Value.ref b0] below meth c H locs (cs) (ss) (lw_Z below #[Value.ref b0] s) (F0 m 726 ls []) := by
    intro cs ss h1 h2 H locs ls hS
    refine lv_iconst (v := 1) hx hb dL_law_726 (by decide) ?_
    refine va_forget (fun q hq => hS.2.2 q hq) ?_
    refine W.widen (k := 601024) (n := 7293000) h1 h2 ?_
    exact lw_ret hx hb hr hlocks dL_law_727
  intro n
  induction n with
  | zero =>
    intro i cs ss hi hin h1 h2 a b I R J S f H locs ls hRl hP hD hS hl
    exact lw_head C (by omega) hL hS hl (hend cs ss (by omega) (by omega) H locs ls hS) (fun h => absurd h (by omega))
  | succ n ih =>
    intro i cs ss hi hin h1 h2 a b I R J S f H locs ls hRl hP hD hS hl
    refine lw_head C (by omega) hL hS hl (hend cs ss (by omega) (by omega) H locs ls hS) (fun hlt => ?_)
    have hcs : cs + 1 ≤ 601024 := by omega
    have hss : ss + 6 ≤ 7293000 := by omega
    have kont : ∀ (a b : Nat → Nat) (I : Nat → Int32) (R : Nat → Nat → Int32) (J : Nat → Int32) (S : Nat → Nat → Int32) (f : Nat → Int64) (H : Heap) (locs : List Loc) (ls : Array Slot), Rl I R J S → va_P G vwCl (LW E a I R b J S ho f) H → va_D (fun q : Nat => s.heap.size ≤ q) (LW E a I R b J S ho f) → va_S (fun q : Nat => s.heap.size ≤ q) s.heap H locs → lv_has ls 7 [(0, .ref b0), (1, .ref (a 0)), (2, .ref (b 0)), (3, .ref ho), (4, .int (nI i))] → W p l e room_1 s m #[Value.ref b0] below meth c H locs (cs + 1) (ss + 6) (lw_Z below #[Value.ref b0] s) (F0 m 720 ls []) := by
      intro a b I R J S f H locs ls hRl hP hD hS hl
      refine lv_iinc (v := nI (i + 4)) (lv' := [(4, .int (nI (i + 4))), (0, .ref b0), (1, .ref (a 0)), (2, .ref (b 0)), (3, .ref ho)]) hx hb dL_law_720 hl (k := 4) rfl (nI_add i 4) (by decide) rfl (fun ls hl => ?_)
      refine lv_goto (tgt := 53) hx hb dL_law_723 (by decide) ?_
      exact ih (i + 4) (cs + 1) (ss + 6) (by omega) (by omega) (by omega) (by omega) a b I R J S f H locs ls hRl hP hD hS (lv_sub hl [1, 2, 3, 4, 0] rfl)
    clear ih
    refine lv_aload_n hx hb dL_law_62 rfl (lv_at hl 0 rfl) ?_
    refine lv_iload hx hb dL_law_63 (lv_at hl 4 rfl) ?_
    refine va_sld hx hb hX hbl hbA hS (vp_in_nI (by omega) (by omega)) dL_law_65 ?_
    refine lv_bipush (v := 31) hx hb dL_law_66 (by decide) ?_
    refine lv_iand hx hb dL_law_68 ?_
    refine lv_topi (fun v ev => ?_)
    by_cases s0 : v = (0 : Int32)
    · refine lv_tableIn (off := 99) (tgt := 168) hx hb dL_law_69 (by rw [s0]; decide) (by rw [s0]; decide) (by rw [s0]; rfl) (by decide) ?_
      exact lc_peek C N p_peek hlt hL hcs hss hRl hP hD hS hl kont
    · by_cases s1 : v = (1 : Int32)
      · refine lv_tableIn (off := 124) (tgt := 193) hx hb dL_law_69 (by rw [s1]; decide) (by rw [s1]; decide) (by rw [s1]; rfl) (by decide) ?_
        exact lc_poke C N p_poke hlt hL hcs hss hRl hP hD hS hl kont
      · by_cases s2 : v = (2 : Int32)
        · refine lv_tableIn (off := 161) (tgt := 230) hx hb dL_law_69 (by rw [s2]; decide) (by rw [s2]; decide) (by rw [s2]; rfl) (by decide) ?_
          exact lc_resize C N p_resize hlt hL hcs hss hRl hP hD hS hl kont
        · by_cases s3 : v = (3 : Int32)
          · refine lv_tableIn (off := 186) (tgt := 255) hx hb dL_law_69 (by rw [s3]; decide) (by rw [s3]; decide) (by rw [s3]; rfl) (by decide) ?_
            exact lc_push C N p_push hlt hL hcs hss hRl hP hD hS hl kont
          · by_cases s4 : v = (4 : Int32)
            · refine lv_tableIn (off := 211) (tgt := 280) hx hb dL_law_69 (by rw [s4]; decide) (by rw [s4]; decide) (by rw [s4]; rfl) (by decide) ?_
              exact lc_pop C hl0 hT N p_pop hcs hss hRl hP hD hS hl kont
            · by_cases s5 : v = (5 : Int32)
              · refine lv_tableIn (off := 255) (tgt := 324) hx hb dL_law_69 (by rw [s5]; decide) (by rw [s5]; decide) (by rw [s5]; rfl) (by decide) ?_
                exact lc_block C N p_block hlt hL hcs hss hRl hP hD hS hl kont
              · by_cases s6 : v = (6 : Int32)
                · refine lv_tableIn (off := 292) (tgt := 361) hx hb dL_law_69 (by rw [s6]; decide) (by rw [s6]; decide) (by rw [s6]; rfl) (by decide) ?_
                  exact lc_free C N p_free hlt hL hcs hss hRl hP hD hS hl kont
                · by_cases s7 : v = (7 : Int32)
                  · refine lv_tableIn (off := 317) (tgt := 386) hx hb dL_law_69 (by rw [s7]; decide) (by rw [s7]; decide) (by rw [s7]; rfl) (by decide) ?_
                    exact lc_protect C N p_protect hlt hL hcs hss hRl hP hD hS hl kont
                  · by_cases s8 : v = (8 : Int32)
                    · refine lv_tableIn (off := 354) (tgt := 423) hx hb dL_law_69 (by rw [s8]; decide) (by rw [s8]; decide) (by rw [s8]; rfl) (by decide) ?_
                      exact lc_save C N p_save hlt hL hcs hss hRl hP hD hS hl kont
                    · by_cases s9 : v = (9 : Int32)
                      · refine lv_tableIn (off := 367) (tgt := 436) hx hb dL_law_69 (by rw [s9]; decide) (by rw [s9]; decide) (by rw [s9]; rfl) (by decide) ?_
                        exact lc_load C N p_load hlt hL hcs hss hRl hP hD hS hl kont
                      · by_cases s10 : v = (10 : Int32)
                        · refine lv_tableIn (off := 380) (tgt := 449) hx hb dL_law_69 (by rw [s10]; decide) (by rw [s10]; decide) (by rw [s10]; rfl) (by decide) ?_
                          exact lc_fault C N p_fault hlt hL hcs hss hRl hP hD hS hl kont
                        · by_cases s11 : v = (11 : Int32)
                          · refine lv_tableIn (off := 405) (tgt := 474) hx hb dL_law_69 (by rw [s11]; decide) (by rw [s11]; decide) (by rw [s11]; rfl) (by decide) ?_
                            exact lc_mark C N p_mark hlt hL hcs hss hRl hP hD hS hl kont
                          · by_cases s12 : v = (12 : Int32)
                            · refine lv_tableIn (off := 418) (tgt := 487) hx hb dL_law_69 (by rw [s12]; decide) (by rw [s12]; decide) (by rw [s12]; rfl) (by decide) ?_
                              exact lc_undo C N p_undo hlt hL hcs hss hRl hP hD hS hl kont
                            · by_cases s13 : v = (13 : Int32)
                              · refine lv_tableIn (off := 431) (tgt := 500) hx hb dL_law_69 (by rw [s13]; decide) (by rw [s13]; decide) (by rw [s13]; rfl) (by decide) ?_
                                exact lc_restart C N p_restart hlt hL hcs hss hRl hP hD hS hl kont
                              · by_cases s14 : v = (14 : Int32)
                                · refine lv_tableIn (off := 444) (tgt := 513) hx hb dL_law_69 (by rw [s14]; decide) (by rw [s14]; decide) (by rw [s14]; rfl) (by decide) ?_
                                  exact lc_at C N p_at hlt hL hcs hss hRl hP hD hS hl kont
                                · by_cases s15 : v = (15 : Int32)
                                  · refine lv_tableIn (off := 469) (tgt := 538) hx hb dL_law_69 (by rw [s15]; decide) (by rw [s15]; decide) (by rw [s15]; rfl) (by decide) ?_
                                    exact lc_alter C N p_alter hlt hL hcs hss hRl hP hD hS hl kont
                                  · by_cases s16 : v = (16 : Int32)
                                    · refine lv_tableIn (off := 506) (tgt := 575) hx hb dL_law_69 (by rw [s16]; decide) (by rw [s16]; decide) (by rw [s16]; rfl) (by decide) ?_
                                      exact lc_cut C N p_cut hlt hL hcs hss hRl hP hD hS hl kont
                                    · by_cases s17 : v = (17 : Int32)
                                      · refine lv_tableIn (off := 531) (tgt := 600) hx hb dL_law_69 (by rw [s17]; decide) (by rw [s17]; decide) (by rw [s17]; rfl) (by decide) ?_
                                        exact lc_more C N p_more hlt hL hcs hss hRl hP hD hS hl kont
                                      · by_cases s18 : v = (18 : Int32)
                                        · refine lv_tableIn (off := 600) (tgt := 669) hx hb dL_law_69 (by rw [s18]; decide) (by rw [s18]; decide) (by rw [s18]; rfl) (by decide) ?_
                                          exact lc_seal C N p_seal hlt hL hcs hss hRl hP hD hS hl kont
                                        · by_cases s19 : v = (19 : Int32)
                                          · refine lv_tableIn (off := 613) (tgt := 682) hx hb dL_law_69 (by rw [s19]; decide) (by rw [s19]; decide) (by rw [s19]; rfl) (by decide) ?_
                                            exact lc_count C N p_count hlt hL hcs hss hRl hP hD hS hl kont
                                          · by_cases s20 : v = (20 : Int32)
                                            · refine lv_tableIn (off := 638) (tgt := 707) hx hb dL_law_69 (by rw [s20]; decide) (by rw [s20]; decide) (by rw [s20]; rfl) (by decide) ?_
                                              exact lc_hash C N p_hash hlt hL hcs hss hRl hP hD hS hl kont
                                            · refine lv_tableOut (tgt := 720) hx hb dL_law_69 (by have g0 := lv_neT s0 (a := 0) (by decide); have g1 := lv_neT s1 (a := 1) (by decide); have g2 := lv_neT s2 (a := 2) (by decide); have g3 := lv_neT s3 (a := 3) (by decide); have g4 := lv_neT s4 (a := 4) (by decide); have g5 := lv_neT s5 (a := 5) (by decide); have g6 := lv_neT s6 (a := 6) (by decide); have g7 := lv_neT s7 (a := 7) (by decide); have g8 := lv_neT s8 (a := 8) (by decide); have g9 := lv_neT s9 (a := 9) (by decide); have g10 := lv_neT s10 (a := 10) (by decide); have g11 := lv_neT s11 (a := 11) (by decide); have g12 := lv_neT s12 (a := 12) (by decide); have g13 := lv_neT s13 (a := 13) (by decide); have g14 := lv_neT s14 (a := 14) (by decide); have g15 := lv_neT s15 (a := 15) (by decide); have g16 := lv_neT s16 (a := 16) (by decide); have g17 := lv_neT s17 (a := 17) (by decide); have g18 := lv_neT s18 (a := 18) (by decide); have g19 := lv_neT s19 (a := 19) (by decide); have g20 := lv_neT s20 (a := 20) (by decide); omega) (by decide) ?_
                                              refine W.widen (k := cs + 1) (n := ss + 6) (by omega) (by omega) ?_
                                              exact kont a b I R J S f H locs ls hRl hP hD hS hl
