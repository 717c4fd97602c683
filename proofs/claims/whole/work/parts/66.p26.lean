/-! ===== reading the whole file ===== -/
def RdQ (seed : Int32) (en : Nat) (a : Int32 × Int32 × Int32 × Int32 × Int32 × Int32 × Int32 × Int32 × (Nat → Int32) × Int32 × (Nat → Int32) × Int32 × (Nat → Int32) × (Nat → Int32) × Int32 × Int32 × (Nat → Int32) × (Nat → Int32) × (Nat → Int32)) (b : Int32 × Int32 × (Nat → Int32) × Int32 × (Nat → Int32) × Int32 × (Nat → Int32) × (Nat → Int32) × Int32 × (Nat → Int32) × (Nat → Int32) × (Nat → Int32) × Int32 × Int32 × Int32) : Prop := (a.1 = 0 ∧ Flt (a.2.1) (a.2.2.1) (b.2.2.2.2.2.2.2.2.2.2.2.2.2.1) (b.2.2.2.2.2.2.2.2.2.2.2.2.2.2)) ∨ (a.1 = 1 ∧ (b.2.2.2.2.2.2.2.2.2.2.2.2.2.1) = 0 ∧ ∃ at' hd bl ot o, LR seed en at' hd 1 1 bl ot o (a.2.2.2.1) (a.2.2.2.2.1) (a.2.2.2.2.2.1) (a.2.2.2.2.2.2.1) (a.2.2.2.2.2.2.2.1) (a.2.2.2.2.2.2.2.2.1) (a.2.2.2.2.2.2.2.2.2.1) (a.2.2.2.2.2.2.2.2.2.2.1) (a.2.2.2.2.2.2.2.2.2.2.2.1) (a.2.2.2.2.2.2.2.2.2.2.2.2.1) (a.2.2.2.2.2.2.2.2.2.2.2.2.2.1) (a.2.2.2.2.2.2.2.2.2.2.2.2.2.2.1) (a.2.2.2.2.2.2.2.2.2.2.2.2.2.2.2.1) (a.2.2.2.2.2.2.2.2.2.2.2.2.2.2.2.2.1) (a.2.2.2.2.2.2.2.2.2.2.2.2.2.2.2.2.2.1) (a.2.2.2.2.2.2.2.2.2.2.2.2.2.2.2.2.2.2) (b.1) (b.2.1) (b.2.2.1) (b.2.2.2.1) (b.2.2.2.2.1) (b.2.2.2.2.2.1) (b.2.2.2.2.2.2.1) (b.2.2.2.2.2.2.2.1) (b.2.2.2.2.2.2.2.2.1) (b.2.2.2.2.2.2.2.2.2.1) (b.2.2.2.2.2.2.2.2.2.2.1) (b.2.2.2.2.2.2.2.2.2.2.2.1) (b.2.2.2.2.2.2.2.2.2.2.2.2.1))
theorem lk_letF {n p N : Nat} {lt q f0 p0 : Int32} {b fl : Nat → Int32} (hN : 5000 ≤ N) (hn : n ≤ 1200) (hp : p ≤ 1000) (hb : ∀ i, i < n → fl i = b i ∧ Byt (b i)) : (f_X3_readLetters N (nI p) lt (nI n) f0 p0 b = some (1, f0, p0) ∧ f_X8_letters N lt (nI n) (nI p) 0 q fl = some (nI (p + 4), 0, q)) ∨ (∃ f y a', (f = 1 ∨ f = 2) ∧ f_X3_readLetters N (nI p) lt (nI n) f0 p0 b = some (0, f, y) ∧ f_X8_letters N lt (nI n) (nI p) 0 q fl = some (a', f, y)) := by
  unfold f_X3_readLetters f_X8_letters
  rcases lk_let (lt := lt) hn hp hb 4 N 0 q f0 p0 (fun z1 z2 z3 => some (1, z1, z2)) (fun z1 z2 z3 z4 => some (z1, z2, z3)) rfl (by omega) with ⟨e1, e3⟩ | ⟨f, y, a', k', hf, e1, e3⟩
  · exact Or.inl ⟨e1, e3⟩
  · exact Or.inr ⟨f, y, a', hf, e1, e3⟩
theorem let_stop {g : Nat} {n lt a f y : Int32} {fl : Nat → Int32} (hf : f ≠ 0) : f_X8_letters (g + 1) lt n a f y fl = some (a, f, y) := by
  unfold f_X8_letters
  show B_X8_letters_2 _ _ _ _ _ _ _ _ _ = _
  unfold B_X8_letters_2
  rw [if_neg (show ¬ (4 : Int32) ≤ 0 by decide), if_neg hf]
theorem all58 {g : Nat} {seed ram en n nM nSL nB nO came : Int32} {fl nN nL nBy nSt nLe nSk nMe : Nat → Int32} {a f y : Int32} (hf : f ≠ 0) : J_X8_readAll_58 (g + 1) seed ram en n nM nSL nB nO came fl nN nL nBy nSt nLe nSk nMe a f y = some (a, nM, nMe, nSL, nSk, nB, nSt, nLe, nO, nN, nL, nBy, came, f, y) := by
  unfold J_X8_readAll_58
  rw [let_stop hf, bd_s, all_stop _ _ _ _ _ _ _ _ _ _ _ _ _ _ _ _ _ _ _ _ _ _ _ hf, if_neg hf]
theorem f12 {f : Int32} (h : f = 1 ∨ f = 2) : f ≠ 0 ∧ 0 < f.toInt := by
  rcases h with rfl | rfl
  · exact ⟨by decide, by decide⟩
  · exact ⟨by decide, by decide⟩
set_option maxHeartbeats 4000000 in
theorem lk_loop0 {N ram en n : Nat} {seed q f0 p0 : Int32} {b fl r0 mem0 stk sts lns lt lg by' : Nat → Int32} {nM : Int32} {nMe nSk nSt nLe nN nL nBy : Nat → Int32} (hN : 5000 ≤ N) (hn : n ≤ 1200) (hram : 16 ≤ ram ∧ ram ≤ 96) (hen : 128 ≤ en ∧ en ≤ 256) (hb : ∀ i, i < n → fl i = b i ∧ Byt (b i)) (hr : ∀ i, i < 512 → r0 i = org seed en i) : rel2 (L_X3_read_16 N (nI ram) (nI en) r0 (nI n) b (fun z6 z7 z8 z9 z10 z11 z12 z13 z14 z15 z16 z17 z18 z19 z20 z21 z22 z23 z24 => if z10 = 0 then J_X3_read_67 (nI n) z8 z9 z10 z11 z12 z13 z14 z15 z16 z17 z18 z19 z20 z21 z22 z23 else if z11 = 0 then J_X3_read_67 (nI n) z8 z9 z10 z11 z12 z13 z14 z15 z16 z17 z18 z19 z20 z21 z22 z23 else some (1, z6, z7, z8, z9, z10, z11, z12, z13, z14, z15, z16, z17, z18, z19, z20, z21, z22, z23)) N f0 p0 (nI 12) (nI 0) (nI 0) (nI 0) (nI 0) (va_cpy r0 mem0 0 0 512) (nI en) stk (nI 0) sts lns (nI 0) (nI 0) lt lg by' (nI (0 + 0 + 0 + 0 + 0))) (L_X8_readAll_64 N seed (nI ram) (nI en) (nI n) fl (fun z9 z10 z11 z12 z13 z14 z15 z16 z17 z18 z19 z20 z21 z22 z23 => if z22 = 0 then (if z21 &&& 6 = 6 then some (z9, z10, z11, z12, z13, z14, z15, z16, z17, z18, z19, z20, z21, z22, z23) else bd (f_X8_fail 8 (nI n) z22 z23) fun u30 => some (z9, z10, z11, z12, z13, z14, z15, z16, z17, z18, z19, z20, z21, u30.1, u30.2)) else some (z9, z10, z11, z12, z13, z14, z15, z16, z17, z18, z19, z20, z21, z22, z23)) N (nI 12) nM nMe (nI 0) nSk (nI 0) nSt nLe (nI 0) nN nL nBy (cmv 0 0 0 0 0) 0 q) (RdQ seed en) := by
  refine lk_loop hN hn hram hen hb hr _ _ (RdQ seed en) ?_ ?_ 9 N 12 0 0 0 0 0 0 f0 p0 q _ _ _ _ _ _ _ _ _ _ _ _ _ _ _ _ _ _ _ _ _ _ _ _ _ _ _ _ _ (by omega) (by omega) (by omega) ?_
  · intro f p c1 c2 c3 c4 c5 c6 c7 c8 c9 c10 c11 c12 c13 c14 c15 c16 d1 d2 d3 d4 d5 d6 d7 d8 d9 d10 d11 d12 d13 h
    rw [if_neg (show ¬ f = 0 by rintro rfl; exact absurd h (by decide))]
    exact rel2_s (Or.inl ⟨rfl, rfl, rfl, h⟩)
  · intro f p q x at' hd me st bl ot o next sH sM sS sB mem sz stk dp sts lns blk cnt lt lg by' mAt nM nMe nSL nSk nB nSt nLe nO nN nL nBy came hLR
    obtain ⟨⟨h0, h1, h2, h3, h4, ho, hbm⟩, ⟨_, _, _, e1, e2, _, e3⟩, _⟩ := id hLR
    obtain ⟨c1, c2, c6, _⟩ := cm_F hd h0 me h1 st h2 bl h3 ot h4
    rw [if_pos rfl]
    by_cases g1 : me = 0
    · rw [if_pos (by rw [e1, g1]; rfl), if_neg (by rw [e3, c6]; omega), v_fail8, bd_s]
      exact rel2_s (Or.inl ⟨rfl, rfl, rfl, (show 0 < (8 : Int32).toInt by decide)⟩)
    · rw [if_neg (by rw [e1, eq0_n (by omega)]; exact g1)]
      by_cases g2 : st = 0
      · rw [if_pos (by rw [e2, g2]; rfl), if_neg (by rw [e3, c6]; omega), v_fail8, bd_s]
        exact rel2_s (Or.inl ⟨rfl, rfl, rfl, (show 0 < (8 : Int32).toInt by decide)⟩)
      · obtain rfl : me = 1 := by omega
        obtain rfl : st = 1 := by omega
        rw [if_neg (by rw [e2, eq0_n (by omega)]; exact g2), if_pos (by rw [e3, c6]; omega)]
        exact rel2_s (Or.inr ⟨rfl, rfl, at', hd, bl, ot, o, hLR⟩)
  · exact ⟨⟨by omega, by omega, by omega, by omega, by omega, by omega, fun c => absurd c (by omega)⟩, ⟨rfl, rfl, rfl, rfl, rfl, rfl, rfl⟩, ⟨en, 0, fun _ => 0, fun _ => 0, ⟨rfl, Nat.le_refl _, by omega⟩, fun _ => ⟨rfl, fun i hi => by rw [cpy_0 hi]; exact hr i hi⟩, fun c => absurd c (by omega), ⟨rfl, rfl, by omega, fun _ => rfl⟩, fun i hi => absurd hi (by omega), fun i hi => absurd hi (by omega)⟩, ⟨0, rfl, rfl, by omega, fun _ => rfl, fun i hi => absurd hi (by omega)⟩, ⟨fun _ => 0, rfl, rfl, fun k hk => absurd hk (by omega)⟩⟩
set_option maxHeartbeats 4000000 in
theorem lk_read {N ram en n : Nat} {seed q : Int32} {b fl r0 mem0 stk sts lns lt lg by' : Nat → Int32} {nM : Int32} {nMe nSk nSt nLe nN nL nBy : Nat → Int32} (hN : 5000 ≤ N) (hn : n ≤ 1200) (hram : 16 ≤ ram ∧ ram ≤ 96) (hen : 128 ≤ en ∧ en ≤ 256) (hb : ∀ i, i < n → fl i = b i ∧ Byt (b i)) (hr : ∀ i, i < 512 → r0 i = org seed en i) : rel2 (f_X3_read N (nI ram) (nI en) r0 mem0 (nI n) b sts lns stk lt lg by') (f_X8_readAll N seed (nI ram) (nI en) (nI n) 0 nM 0 0 0 0 0 q fl nN nL nBy nSt nLe nSk nMe) (RdQ seed en) := by
  obtain ⟨g, rfl⟩ : ∃ g, N = g + 1 := ⟨N - 1, by omega⟩
  unfold f_X3_read f_X3_forget f_X1_begin f_X3_readFront f_X8_readAll
  rw [bn_s, bd_s, bd_s]
  dsimp only
  rcases lk_letF (p := 0) (lt := 1179603533) (q := q) (f0 := 0) (p0 := 0) hN hn (by omega) hb with ⟨e1, e3⟩ | ⟨f, y, a', hf, e1, e3⟩
  · rw [show f_X3_readLetters (g + 1) 0 1179603533 (nI n) 0 0 b = _ from e1, show f_X8_letters (g + 1) 1179603533 (nI n) 0 0 q fl = _ from e3, bd_s, bd_s, if_neg (show ¬ (1 : Int32) = 0 by decide), if_pos rfl]
    dsimp only
    rw [v_has (k := 4) (by omega) rfl (by omega) hn, show (4 : Int32) = nI 4 from rfl, v_reachesN (k := 4) (by omega) rfl (by omega) hn]
    by_cases h8 : 8 ≤ n
    · rw [if_pos (by omega), if_pos (by omega), bd_s, bd_s, if_neg (show ¬ (1 : Int32) = 0 by decide), if_neg (show ¬ (1 : Int32) = 0 by decide), v_four8 (by omega), bd_s, bd_s]
      unfold f_X3_readWholeLength
      rw [show (4 : Int32) = nI 4 from rfl, v_four1 (by omega), bd_s, fr_congr hb (by omega), show (8 : Int32) = nI 8 from rfl, nI_sub (by omega)]
      by_cases hw : fr b 4 = nI (n - 8)
      · rw [if_pos hw, bd_s, if_neg (show ¬ (1 : Int32) = 0 by decide), if_neg (show ¬ fr b 4 < 0 by rw [hw, lt0_n (by omega)]; exact id), if_pos hw]
        unfold J_X8_readAll_52 J_X8_readAll_58
        dsimp only
        rcases lk_letF (p := 8) (lt := 1229347411) (q := q) (f0 := 0) (p0 := 0) hN hn (by omega) hb with ⟨e1, e3⟩ | ⟨f, y, a', hf, e1, e3⟩
        · rw [e1, show f_X8_letters (g + 1) 1229347411 (nI n) 8 0 q fl = _ from e3, bd_s, bd_s, if_neg (show ¬ (1 : Int32) = 0 by decide), bd_s, if_neg (show ¬ (1 : Int32) = 0 by decide)]
          exact lk_loop0 hN hn hram hen hb hr
        · rw [e1, show f_X8_letters (g + 1) 1229347411 (nI n) 8 0 q fl = _ from e3, bd_s, bd_s, if_pos rfl, bd_s, if_pos rfl, all_stop _ _ _ _ _ _ _ _ _ _ _ _ _ _ _ _ _ _ _ _ _ _ _ (f12 hf).1, if_neg (f12 hf).1]
          exact rel2_s (Or.inl ⟨rfl, rfl, rfl, (f12 hf).2⟩)
      · have e46 : J_X8_readAll_46 (g + 1) seed (nI ram) (nI en) (nI n) nM 0 0 0 0 fl nN nL nBy nSt nLe nSk nMe (1, 0, q) = some (8, nM, nMe, 0, nSk, 0, nSt, nLe, 0, nN, nL, nBy, 0, 5, nI 4) := by
          unfold J_X8_readAll_46 J_X8_readAll_52
          rw [v_fail8, bd_s]
          exact all58 (show (5 : Int32) ≠ 0 by decide)
        rw [if_neg hw, if_neg hw, e46, ite_self]
        exact rel2_s (Or.inl ⟨rfl, rfl, rfl, (show 0 < (5 : Int32).toInt by decide)⟩)
    · rw [if_neg (by omega), if_neg (by omega), bd_s, bd_s, if_pos rfl, if_pos rfl, bd_s, if_pos rfl, all58 (show (1 : Int32) ≠ 0 by decide)]
      exact rel2_s (Or.inl ⟨rfl, rfl, rfl, (show 0 < (1 : Int32).toInt by decide)⟩)
  · rw [show f_X3_readLetters (g + 1) 0 1179603533 (nI n) 0 0 b = _ from e1, show f_X8_letters (g + 1) 1179603533 (nI n) 0 0 q fl = _ from e3, bd_s, bd_s, if_pos rfl, bd_s, if_pos rfl, if_neg (f12 hf).1, all58 (f12 hf).1]
    exact rel2_s (Or.inl ⟨rfl, rfl, rfl, (f12 hf).2⟩)
