/-! ===== reading one chunk: its inside ===== -/
set_option maxHeartbeats 4000000 in
theorem in_0 {N ram en n at' hd me st bl ot o L : Nat} {seed q f0 p0 sz dp blk nM nSL nB : Int32} {b fl r0 mem stk sts lns lt lg by' nN nL nBy nSt nLe nSk nMe : Nat → Int32} (hN : 5000 ≤ N) (hn : n ≤ 1200) (hram : 16 ≤ ram ∧ ram ≤ 96) (hen : 128 ≤ en ∧ en ≤ 256) (hb : ∀ i, i < n → fl i = b i ∧ Byt (b i)) (hr : ∀ i, i < 512 → r0 i = org seed en i) (hfit : at' + 8 + L + L % 2 ≤ n) (hLR : LR seed en at' hd me st bl ot o (nI at') (nI hd) (nI me) (nI st) (nI bl) mem sz stk dp sts lns blk (nI o) lt lg by' (nI at') nM nMe nSL nSk nB nSt nLe (nI o) nN nL nBy (cmv hd me st bl ot)) (hL : L = 16) (hd0 : hd = 0) : rel2 (bd (f_X3_readInside N 1229351012 (nI at') (nI L) f0 p0 (nI hd) (nI me) (nI st) (nI bl) b (nI ram) (nI en) sz dp blk mem r0 sts lns stk (nI o) lt lg by') (fun u21 => gbo u21.1 (some (u21.1, u21.2.1, u21.2.2.1, nI (at' + 8 + L + L % 2), u21.2.2.2.1, u21.2.2.2.2.1, u21.2.2.2.2.2.1, u21.2.2.2.2.2.2.1, u21.2.2.2.2.2.2.2.1, u21.2.2.2.2.2.2.2.2.1, u21.2.2.2.2.2.2.2.2.2.1, u21.2.2.2.2.2.2.2.2.2.2.1, u21.2.2.2.2.2.2.2.2.2.2.2.1, u21.2.2.2.2.2.2.2.2.2.2.2.2.1, u21.2.2.2.2.2.2.2.2.2.2.2.2.2.1, u21.2.2.2.2.2.2.2.2.2.2.2.2.2.2.1, u21.2.2.2.2.2.2.2.2.2.2.2.2.2.2.2.1, u21.2.2.2.2.2.2.2.2.2.2.2.2.2.2.2.2.1, u21.2.2.2.2.2.2.2.2.2.2.2.2.2.2.2.2.2)))) (J_X8_readChunk_383 N seed (nI ram) (nI en) nM nSL nB (nI o) (cmv hd me st bl ot) fl nN nL nBy nSt nLe nSk nMe 1229351012 (nI 0) (nI L) (nI (at' + 8)) (1, 0, q)) (ChQ seed en (hd + me + st + bl + o + 1)) := by
  obtain ⟨⟨h0, h1, h2, h3, h4, ho, hbm⟩, _, ⟨z, k, s, l, ⟨rfl, hz1, hz2⟩, hme0, hme1, ⟨rfl, rfl, hk8, hk0⟩, hbl, hBk⟩, ⟨d, rfl, rfl, hd40, hst0, hstk⟩, ⟨ln, _, _, hoth⟩⟩ := id hLR
  obtain ⟨c1, c2, c6, s0, s1, s2, s3, o0, o1, o2, o3, o4⟩ := cm_F hd h0 me h1 st h2 bl h3 ot h4
  have e8 : nI at' + (8 : Int32) = nI (at' + 8) := nI_add at' 8
  have e2 : i_rem (nI L) 2 = nI (L % 2) := nI_rem (b := 2) (by omega) (by omega)
  have en2 : nI (at' + 8) + (nI L + nI (L % 2)) = nI (at' + 8 + L + L % 2) := by
    rw [nI_add, nI_add]
    exact congrArg nI (by omega)
  subst hL hd0
  unfold f_X3_readInside J_X8_readChunk_383 J_X8_readChunk_524 f_X3_readHead f_X8_readHead
  rw [e8, bn_s, if_neg (show ¬ (1229351012 : Int32) = 1129145709 by decide), if_pos rfl, bn_s, if_pos (show nI 0 = 0 from rfl), if_pos (show nI 16 = 16 from rfl), e2, o0, show (0 : Int32) = nI 0 from rfl]
  rcases lk_head (K := fun z1 => some (1, f0, p0)) (K' := fun z2 z3 z4 => some (z2, z3)) hen.2 (show at' + 8 + 16 ≤ n by omega) hn hb hr 16 N 0 q (by omega) (by omega) with ⟨e1, e3⟩ | ⟨y, e1, e3⟩
  · rw [e1, show L_X8_readHead_20 seed (nI en) (nI (at' + 8)) fl _ N (nI 0) q (nI 0) = _ from e3, bd_s, bd_s]
    refine rel2_s (Or.inr ⟨rfl, rfl, _, 1, me, st, bl, ot, o, by omega, by omega, ⟨⟨by omega, h1, h2, h3, h4, ho, hbm⟩, ⟨rfl, en2, rfl, rfl, rfl, rfl, rfl⟩, ⟨z, k, s, l, ⟨rfl, hz1, hz2⟩, hme0, hme1, ⟨rfl, rfl, hk8, hk0⟩, hbl, hBk⟩, ⟨d, rfl, rfl, hd40, hst0, hstk⟩, ⟨ln, rfl, rfl, hoth⟩⟩⟩)
  · rw [e1, show L_X8_readHead_20 seed (nI en) (nI (at' + 8)) fl _ N (nI 0) q (nI 0) = _ from e3, bd_s, bd_s]
    exact rel2_s (Or.inl ⟨rfl, rfl, rfl, (show 0 < (3 : Int32).toInt by decide)⟩)
set_option maxHeartbeats 4000000 in
theorem in_1 {N ram en n at' hd me st bl ot o L : Nat} {seed q f0 p0 sz dp blk nM nSL nB : Int32} {b fl r0 mem stk sts lns lt lg by' nN nL nBy nSt nLe nSk nMe : Nat → Int32} (hN : 5000 ≤ N) (hn : n ≤ 1200) (hram : 16 ≤ ram ∧ ram ≤ 96) (hen : 128 ≤ en ∧ en ≤ 256) (hb : ∀ i, i < n → fl i = b i ∧ Byt (b i)) (hr : ∀ i, i < 512 → r0 i = org seed en i) (hfit : at' + 8 + L + L % 2 ≤ n) (hLR : LR seed en at' hd me st bl ot o (nI at') (nI hd) (nI me) (nI st) (nI bl) mem sz stk dp sts lns blk (nI o) lt lg by' (nI at') nM nMe nSL nSk nB nSt nLe (nI o) nN nL nBy (cmv hd me st bl ot)) (hL : 4 ≤ L) (hm0 : me = 0) (hb0 : bl = 0) : rel2 (bd (f_X3_readInside N 1129145709 (nI at') (nI L) f0 p0 (nI hd) (nI me) (nI st) (nI bl) b (nI ram) (nI en) sz dp blk mem r0 sts lns stk (nI o) lt lg by') (fun u21 => gbo u21.1 (some (u21.1, u21.2.1, u21.2.2.1, nI (at' + 8 + L + L % 2), u21.2.2.2.1, u21.2.2.2.2.1, u21.2.2.2.2.2.1, u21.2.2.2.2.2.2.1, u21.2.2.2.2.2.2.2.1, u21.2.2.2.2.2.2.2.2.1, u21.2.2.2.2.2.2.2.2.2.1, u21.2.2.2.2.2.2.2.2.2.2.1, u21.2.2.2.2.2.2.2.2.2.2.2.1, u21.2.2.2.2.2.2.2.2.2.2.2.2.1, u21.2.2.2.2.2.2.2.2.2.2.2.2.2.1, u21.2.2.2.2.2.2.2.2.2.2.2.2.2.2.1, u21.2.2.2.2.2.2.2.2.2.2.2.2.2.2.2.1, u21.2.2.2.2.2.2.2.2.2.2.2.2.2.2.2.2.1, u21.2.2.2.2.2.2.2.2.2.2.2.2.2.2.2.2.2)))) (J_X8_readChunk_383 N seed (nI ram) (nI en) nM nSL nB (nI o) (cmv hd me st bl ot) fl nN nL nBy nSt nLe nSk nMe 1129145709 (nI 1) (nI L) (nI (at' + 8)) (1, 0, q)) (ChQ seed en (hd + me + st + bl + o + 1)) := by
  obtain ⟨⟨h0, h1, h2, h3, h4, ho, hbm⟩, _, ⟨z, k, s, l, ⟨rfl, hz1, hz2⟩, hme0, hme1, ⟨rfl, rfl, hk8, hk0⟩, hbl, hBk⟩, ⟨d, rfl, rfl, hd40, hst0, hstk⟩, ⟨ln, _, _, hoth⟩⟩ := id hLR
  obtain ⟨c1, c2, c6, s0, s1, s2, s3, o0, o1, o2, o3, o4⟩ := cm_F hd h0 me h1 st h2 bl h3 ot h4
  have e8 : nI at' + (8 : Int32) = nI (at' + 8) := nI_add at' 8
  have e2 : i_rem (nI L) 2 = nI (L % 2) := nI_rem (b := 2) (by omega) (by omega)
  have en2 : nI (at' + 8) + (nI L + nI (L % 2)) = nI (at' + 8 + L + L % 2) := by
    rw [nI_add, nI_add]
    exact congrArg nI (by omega)
  subst hm0 hb0
  obtain ⟨rfl, hmem⟩ := hme0 rfl
  have hk00 := hk0 rfl
  subst hk00
  have efr : fr fl (at' + 8) = fr b (at' + 8) := fr_congr hb (by omega)
  unfold f_X3_readInside J_X8_readChunk_383 J_X8_readChunk_524 f_X3_readSize f_X8_readMemory
  rw [e8, bn_s, if_pos rfl, bn_s, if_neg (show ¬ nI 1 = 0 by decide), if_pos (show nI 1 = 1 from rfl), if_pos (show (4 : Int32) ≤ nI L by rw [show (4 : Int32) = nI 4 from rfl, nI_leI (by omega) (by omega)]; exact hL), v_four1 (by omega), v_four8 (by omega), efr, bd_s, bd_s, v_allows _ (by omega), v_isSize _ (by omega), bd_s, bd_s, e2, o1]
  simp only [bI_0]
  by_cases hsz : (z : Int) ≤ (fr b (at' + 8)).toInt ∧ (fr b (at' + 8)).toInt ≤ (512 : Nat) ∧ i_rem (fr b (at' + 8)) 32 = 0
  · rw [if_neg (not_not_intro hsz), if_neg (not_not_intro hsz)]
    obtain ⟨y, hy1, hy2, hy3, ey⟩ := rgE hsz
    rw [ey, bd_s, if_neg (show ¬ (1 : Int32) = 0 by decide), l_newMem (by omega) hy2 hN]
    unfold f_X3_readMemory
    dsimp only
    rw [show (4 : Int32) = nI 4 from rfl, nI_add, nI_add, bn_s]
    have hag : ∀ j, j < y → filo 0 0 y (org seed z) nMe j = mem j ∧ Byt (mem j) := by
      intro j hj
      rw [filo_0 hj, hmem j (by omega)]
      exact ⟨rfl, Byt_org ..⟩
    rcases lk_memr (show at' + 8 + L ≤ n by omega) hn hy2 hb (fun z1 z2 z3 => some (1, f0, p0, z1)) (fun z16 z17 z18 z19 z20 => some (nI y, z16, z17, z18)) L N ram (at' + 8 + 4) q mem (filo 0 0 y (org seed z) nMe) (by omega) (by omega) (by omega) (by omega) hag with ⟨m2, m2', x1, x2, x3, x4, e1, e3, hm2⟩ | ⟨m2, m2', y2, x3, x4, e1, e3⟩
    · rw [e1, e3, bd_s, bd_s, bn_s, bn_s, if_neg (show ¬ (1 : Int32) = 0 by decide), bd_s]
      refine rel2_s (Or.inr ⟨rfl, rfl, _, hd, 1, st, 0, ot, o, by omega, by omega, ⟨⟨h0, by omega, h2, by omega, h4, ho, fun c => absurd c (by omega)⟩, ⟨rfl, en2, rfl, rfl, rfl, rfl, rfl⟩, ⟨y, 0, s, l, ⟨rfl, hy1, hy2⟩, fun c => absurd c (by omega), fun _ => ⟨rfl, hm2⟩, ⟨rfl, rfl, hk8, fun _ => rfl⟩, fun i hi => absurd hi (by omega), fun i hi => absurd hi (by omega)⟩, ⟨d, rfl, rfl, hd40, hst0, hstk⟩, ⟨ln, rfl, rfl, hoth⟩⟩⟩)
    · rw [e1, e3, bd_s, bd_s, bn_s, bn_s, if_pos rfl, bd_s]
      exact rel2_s (Or.inl ⟨rfl, rfl, rfl, (show 0 < (6 : Int32).toInt by decide)⟩)
  · rw [if_pos hsz, if_pos hsz, v_fail8, bd_s, bd_s]
    exact rel2_s (Or.inl ⟨rfl, rfl, rfl, (show 0 < (6 : Int32).toInt by decide)⟩)
set_option maxHeartbeats 4000000 in
theorem in_2 {N ram en n at' hd me st bl ot o L : Nat} {seed q f0 p0 sz dp blk nM nSL nB : Int32} {b fl r0 mem stk sts lns lt lg by' nN nL nBy nSt nLe nSk nMe : Nat → Int32} (hN : 5000 ≤ N) (hn : n ≤ 1200) (hram : 16 ≤ ram ∧ ram ≤ 96) (hen : 128 ≤ en ∧ en ≤ 256) (hb : ∀ i, i < n → fl i = b i ∧ Byt (b i)) (hr : ∀ i, i < 512 → r0 i = org seed en i) (hfit : at' + 8 + L + L % 2 ≤ n) (hLR : LR seed en at' hd me st bl ot o (nI at') (nI hd) (nI me) (nI st) (nI bl) mem sz stk dp sts lns blk (nI o) lt lg by' (nI at') nM nMe nSL nSk nB nSt nLe (nI o) nN nL nBy (cmv hd me st bl ot)) (hL : L ≤ 160) (hL4 : L % 4 = 0) (hs0 : st = 0) : rel2 (bd (f_X3_readInside N 1400138611 (nI at') (nI L) f0 p0 (nI hd) (nI me) (nI st) (nI bl) b (nI ram) (nI en) sz dp blk mem r0 sts lns stk (nI o) lt lg by') (fun u21 => gbo u21.1 (some (u21.1, u21.2.1, u21.2.2.1, nI (at' + 8 + L + L % 2), u21.2.2.2.1, u21.2.2.2.2.1, u21.2.2.2.2.2.1, u21.2.2.2.2.2.2.1, u21.2.2.2.2.2.2.2.1, u21.2.2.2.2.2.2.2.2.1, u21.2.2.2.2.2.2.2.2.2.1, u21.2.2.2.2.2.2.2.2.2.2.1, u21.2.2.2.2.2.2.2.2.2.2.2.1, u21.2.2.2.2.2.2.2.2.2.2.2.2.1, u21.2.2.2.2.2.2.2.2.2.2.2.2.2.1, u21.2.2.2.2.2.2.2.2.2.2.2.2.2.2.1, u21.2.2.2.2.2.2.2.2.2.2.2.2.2.2.2.1, u21.2.2.2.2.2.2.2.2.2.2.2.2.2.2.2.2.1, u21.2.2.2.2.2.2.2.2.2.2.2.2.2.2.2.2.2)))) (J_X8_readChunk_383 N seed (nI ram) (nI en) nM nSL nB (nI o) (cmv hd me st bl ot) fl nN nL nBy nSt nLe nSk nMe 1400138611 (nI 2) (nI L) (nI (at' + 8)) (1, 0, q)) (ChQ seed en (hd + me + st + bl + o + 1)) := by
  obtain ⟨⟨h0, h1, h2, h3, h4, ho, hbm⟩, _, ⟨z, k, s, l, ⟨rfl, hz1, hz2⟩, hme0, hme1, ⟨rfl, rfl, hk8, hk0⟩, hbl, hBk⟩, ⟨d, rfl, rfl, hd40, hst0, hstk⟩, ⟨ln, _, _, hoth⟩⟩ := id hLR
  obtain ⟨c1, c2, c6, s0, s1, s2, s3, o0, o1, o2, o3, o4⟩ := cm_F hd h0 me h1 st h2 bl h3 ot h4
  have e8 : nI at' + (8 : Int32) = nI (at' + 8) := nI_add at' 8
  have e2 : i_rem (nI L) 2 = nI (L % 2) := nI_rem (b := 2) (by omega) (by omega)
  have en2 : nI (at' + 8) + (nI L + nI (L % 2)) = nI (at' + 8 + L + L % 2) := by
    rw [nI_add, nI_add]
    exact congrArg nI (by omega)
  subst hs0
  have hd00 := hst0 rfl
  subst hd00
  have e4 : i_rem (nI L) 4 = nI (L % 4) := nI_rem (b := 4) (by omega) (by omega)
  have ed : nI L / (4 : Int32) = nI (L / 4) := nI_div (b := 4) (by omega) (by omega)
  unfold f_X3_readInside J_X8_readChunk_383 J_X8_readChunk_524 f_X3_readStack f_X8_readStack
  rw [e8, bn_s, if_neg (show ¬ (1400138611 : Int32) = 1129145709 by decide), if_neg (show ¬ (1400138611 : Int32) = 1229351012 by decide), if_neg (show ¬ (1400138611 : Int32) = 1296133228 by decide), if_pos rfl, bn_s, if_neg (show ¬ nI 2 = 0 by decide), if_neg (show ¬ nI 2 = 1 by decide), if_pos (show nI 2 = 2 from rfl), e4, hL4, bn_s, if_pos (show nI 0 = 0 from rfl), if_pos (show nI L ≤ 160 by rw [show (160 : Int32) = nI 160 from rfl, nI_leI (by omega) (by omega)]; exact hL), ed, bn_s, l_stk8 (by omega) (by omega) hN, show L_X3_readStack_3 (nI (at' + 8)) (nI (L / 4)) b _ N stk (nI 0) 0 = _ from l_stk1 (by omega) (by omega) (L / 4) N 0 stk (by omega) (by omega), bd_s, bd_s, e2, o2]
  have hag : ∀ i, i < L / 4 → filo 0 0 (L / 4) (fun i => fr fl (at' + 8 + 4 * i)) nSk i = filo 0 0 (L / 4) (fun i => fr b (at' + 8 + 4 * i)) stk i := by
    intro i hi
    rw [filo_0 hi, filo_0 hi]
    exact fr_congr hb (by omega)
  refine rel2_s (Or.inr ⟨rfl, rfl, _, hd, me, 1, bl, ot, o, by omega, by omega, ⟨⟨h0, h1, by omega, h3, h4, ho, hbm⟩, ⟨rfl, en2, rfl, rfl, rfl, rfl, rfl⟩, ⟨z, k, s, l, ⟨rfl, hz1, hz2⟩, hme0, hme1, ⟨rfl, rfl, hk8, hk0⟩, hbl, hBk⟩, ⟨L / 4, rfl, rfl, by omega, fun c => absurd c (by omega), hag⟩, ⟨ln, rfl, rfl, hoth⟩⟩⟩)
set_option maxHeartbeats 4000000 in
theorem in_3 {N ram en n at' hd me st bl ot o L : Nat} {seed q f0 p0 sz dp blk nM nSL nB : Int32} {b fl r0 mem stk sts lns lt lg by' nN nL nBy nSt nLe nSk nMe : Nat → Int32} (hN : 5000 ≤ N) (hn : n ≤ 1200) (hram : 16 ≤ ram ∧ ram ≤ 96) (hen : 128 ≤ en ∧ en ≤ 256) (hb : ∀ i, i < n → fl i = b i ∧ Byt (b i)) (hr : ∀ i, i < 512 → r0 i = org seed en i) (hfit : at' + 8 + L + L % 2 ≤ n) (hLR : LR seed en at' hd me st bl ot o (nI at') (nI hd) (nI me) (nI st) (nI bl) mem sz stk dp sts lns blk (nI o) lt lg by' (nI at') nM nMe nSL nSk nB nSt nLe (nI o) nN nL nBy (cmv hd me st bl ot)) (hL : 12 ≤ L ∧ L ≤ 68) (hL8 : L % 8 = 4) (hm1 : me = 1) (hb0 : bl = 0) : rel2 (bd (f_X3_readInside N 1296133228 (nI at') (nI L) f0 p0 (nI hd) (nI me) (nI st) (nI bl) b (nI ram) (nI en) sz dp blk mem r0 sts lns stk (nI o) lt lg by') (fun u21 => gbo u21.1 (some (u21.1, u21.2.1, u21.2.2.1, nI (at' + 8 + L + L % 2), u21.2.2.2.1, u21.2.2.2.2.1, u21.2.2.2.2.2.1, u21.2.2.2.2.2.2.1, u21.2.2.2.2.2.2.2.1, u21.2.2.2.2.2.2.2.2.1, u21.2.2.2.2.2.2.2.2.2.1, u21.2.2.2.2.2.2.2.2.2.2.1, u21.2.2.2.2.2.2.2.2.2.2.2.1, u21.2.2.2.2.2.2.2.2.2.2.2.2.1, u21.2.2.2.2.2.2.2.2.2.2.2.2.2.1, u21.2.2.2.2.2.2.2.2.2.2.2.2.2.2.1, u21.2.2.2.2.2.2.2.2.2.2.2.2.2.2.2.1, u21.2.2.2.2.2.2.2.2.2.2.2.2.2.2.2.2.1, u21.2.2.2.2.2.2.2.2.2.2.2.2.2.2.2.2.2)))) (J_X8_readChunk_383 N seed (nI ram) (nI en) nM nSL nB (nI o) (cmv hd me st bl ot) fl nN nL nBy nSt nLe nSk nMe 1296133228 (nI 3) (nI L) (nI (at' + 8)) (1, 0, q)) (ChQ seed en (hd + me + st + bl + o + 1)) := by
  obtain ⟨⟨h0, h1, h2, h3, h4, ho, hbm⟩, _, ⟨z, k, s, l, ⟨rfl, hz1, hz2⟩, hme0, hme1, ⟨rfl, rfl, hk8, hk0⟩, hbl, hBk⟩, ⟨d, rfl, rfl, hd40, hst0, hstk⟩, ⟨ln, _, _, hoth⟩⟩ := id hLR
  obtain ⟨c1, c2, c6, s0, s1, s2, s3, o0, o1, o2, o3, o4⟩ := cm_F hd h0 me h1 st h2 bl h3 ot h4
  have e8 : nI at' + (8 : Int32) = nI (at' + 8) := nI_add at' 8
  have e2 : i_rem (nI L) 2 = nI (L % 2) := nI_rem (b := 2) (by omega) (by omega)
  have en2 : nI (at' + 8) + (nI L + nI (L % 2)) = nI (at' + 8 + L + L % 2) := by
    rw [nI_add, nI_add]
    exact congrArg nI (by omega)
  subst hm1 hb0
  obtain ⟨rfl, hmem⟩ := hme1 rfl
  have hk00 := hk0 rfl
  subst hk00
  have efr : fr fl (at' + 8) = fr b (at' + 8) := fr_congr hb (by omega)
  have e4 : i_rem (nI L) 8 = nI (L % 8) := nI_rem (b := 8) (by omega) (by omega)
  have ed : (nI L - (4 : Int32)) / (8 : Int32) = nI ((L - 4) / 8) := by
    rw [show (4 : Int32) = nI 4 from rfl, nI_sub (by omega)]
    exact nI_div (b := 8) (by omega) (by omega)
  unfold f_X3_readInside J_X8_readChunk_383 J_X8_readChunk_524 f_X3_readBlocks f_X8_readBlocks
  rw [e8, bn_s, if_neg (show ¬ (1296133228 : Int32) = 1129145709 by decide), if_neg (show ¬ (1296133228 : Int32) = 1229351012 by decide), if_pos rfl, bn_s, if_neg (show ¬ nI 3 = 0 by decide), if_neg (show ¬ nI 3 = 1 by decide), if_neg (show ¬ nI 3 = 2 by decide), if_pos (show nI 3 = 3 from rfl), in_n, bd_s, nI_toInt (show L < 2 ^ 31 by omega), bI_t (show (12 : Int64).toInt ≤ (L : Int) ∧ (L : Int) ≤ (68 : Int64).toInt by rw [show (12 : Int64).toInt = 12 from rfl, show (68 : Int64).toInt = 68 from rfl]; omega), if_neg (show ¬ (1 : Int32) = 0 by decide), e4, hL8, bn_s, if_pos (show nI 4 = 4 from rfl), ed, bn_s, v_four1 (by omega), v_four8 (by omega), efr, bd_s, bd_s, e2, o3]
  by_cases hc : fr b (at' + 8) = nI ((L - 4) / 8)
  · rw [if_pos hc, if_pos hc, show (0 : Int32) = nI 0 from rfl]
    rcases lk_blkr (p := at' + 8) (m := (L - 4) / 8) (en := en) (z := z) (show at' + 8 + 4 + 8 * ((L - 4) / 8) ≤ n by omega) hn (by omega) hen.2 hz2 hb hN (fun z4 z5 z6 z7 => some (1, f0, p0, z4, z5, z6)) (fun z12 z13 z14 z15 z16 z17 => some (nI ((L - 4) / 8), z12, z13, z14, z15)) ((L - 4) / 8) N 0 en q sts lns nSt nLe s l (by omega) (by omega) (fun i hi => absurd hi (by omega)) (fun i hi => absurd hi (by omega)) (Nat.le_refl _) (by omega) (fun i hi => absurd hi (by omega)) (Or.inl rfl) with ⟨st2, ln2, st2', ln2', s2, l2, x, e1, e3, ha, hB2⟩ | ⟨y, a1, a2, a3, d1, d2, d3, d4, e1, e3⟩
    · rw [e1, show L_X8_readBlocks_77 (nI (at' + 8)) (nI z) fl (nI ((L - 4) / 8)) _ N nSt nLe (nI 0) q (nI en) (nI 0) = _ from e3, bd_s, bd_s]
      refine rel2_s (Or.inr ⟨rfl, rfl, _, hd, 1, st, 1, ot, o, by omega, by omega, ⟨⟨h0, by omega, h2, by omega, h4, ho, fun _ => rfl⟩, ⟨rfl, en2, rfl, rfl, rfl, rfl, rfl⟩, ⟨z, (L - 4) / 8, s2, l2, ⟨rfl, hz1, hz2⟩, fun c => absurd c (by omega), fun _ => ⟨rfl, hmem⟩, ⟨rfl, rfl, by omega, fun c => absurd c (by omega)⟩, ha, hB2⟩, ⟨d, rfl, rfl, hd40, hst0, hstk⟩, ⟨ln, rfl, rfl, hoth⟩⟩⟩)
    · rw [e1, show L_X8_readBlocks_77 (nI (at' + 8)) (nI z) fl (nI ((L - 4) / 8)) _ N nSt nLe (nI 0) q (nI en) (nI 0) = _ from e3, bd_s, bd_s]
      exact rel2_s (Or.inl ⟨rfl, rfl, rfl, (show 0 < (7 : Int32).toInt by decide)⟩)
  · rw [if_neg hc, if_neg hc, v_fail8, bd_s, bd_s]
    exact rel2_s (Or.inl ⟨rfl, rfl, rfl, (show 0 < (7 : Int32).toInt by decide)⟩)
set_option maxHeartbeats 4000000 in
theorem in_4 {N ram en n at' hd me st bl ot o L : Nat} {seed q f0 p0 sz dp blk nM nSL nB : Int32} {b fl r0 mem stk sts lns lt lg by' nN nL nBy nSt nLe nSk nMe : Nat → Int32} {nm : Int32} (hN : 5000 ≤ N) (hn : n ≤ 1200) (hram : 16 ≤ ram ∧ ram ≤ 96) (hen : 128 ≤ en ∧ en ≤ 256) (hb : ∀ i, i < n → fl i = b i ∧ Byt (b i)) (hr : ∀ i, i < 512 → r0 i = org seed en i) (hfit : at' + 8 + L + L % 2 ≤ n) (hLR : LR seed en at' hd me st bl ot o (nI at') (nI hd) (nI me) (nI st) (nI bl) mem sz stk dp sts lns blk (nI o) lt lg by' (nI at') nM nMe nSL nSk nB nSt nLe (nI o) nN nL nBy (cmv hd me st bl ot)) (hL : L ≤ 60) (ho4 : o < 4) (hnm : nm = fr b at') (n0 : nm ≠ 1229351012) (n1 : nm ≠ 1129145709) (n2 : nm ≠ 1400138611) (n3 : nm ≠ 1296133228) : rel2 (bd (f_X3_readInside N nm (nI at') (nI L) f0 p0 (nI hd) (nI me) (nI st) (nI bl) b (nI ram) (nI en) sz dp blk mem r0 sts lns stk (nI o) lt lg by') (fun u21 => gbo u21.1 (some (u21.1, u21.2.1, u21.2.2.1, nI (at' + 8 + L + L % 2), u21.2.2.2.1, u21.2.2.2.2.1, u21.2.2.2.2.2.1, u21.2.2.2.2.2.2.1, u21.2.2.2.2.2.2.2.1, u21.2.2.2.2.2.2.2.2.1, u21.2.2.2.2.2.2.2.2.2.1, u21.2.2.2.2.2.2.2.2.2.2.1, u21.2.2.2.2.2.2.2.2.2.2.2.1, u21.2.2.2.2.2.2.2.2.2.2.2.2.1, u21.2.2.2.2.2.2.2.2.2.2.2.2.2.1, u21.2.2.2.2.2.2.2.2.2.2.2.2.2.2.1, u21.2.2.2.2.2.2.2.2.2.2.2.2.2.2.2.1, u21.2.2.2.2.2.2.2.2.2.2.2.2.2.2.2.2.1, u21.2.2.2.2.2.2.2.2.2.2.2.2.2.2.2.2.2)))) (J_X8_readChunk_383 N seed (nI ram) (nI en) nM nSL nB (nI o) (cmv hd me st bl ot) fl nN nL nBy nSt nLe nSk nMe nm (nI 4) (nI L) (nI (at' + 8)) (1, 0, q)) (ChQ seed en (hd + me + st + bl + o + 1)) := by
  obtain ⟨⟨h0, h1, h2, h3, h4, ho, hbm⟩, _, ⟨z, k, s, l, ⟨rfl, hz1, hz2⟩, hme0, hme1, ⟨rfl, rfl, hk8, hk0⟩, hbl, hBk⟩, ⟨d, rfl, rfl, hd40, hst0, hstk⟩, ⟨ln, _, _, hoth⟩⟩ := id hLR
  obtain ⟨c1, c2, c6, s0, s1, s2, s3, o0, o1, o2, o3, o4⟩ := cm_F hd h0 me h1 st h2 bl h3 ot h4
  have e8 : nI at' + (8 : Int32) = nI (at' + 8) := nI_add at' 8
  have e2 : i_rem (nI L) 2 = nI (L % 2) := nI_rem (b := 2) (by omega) (by omega)
  have en2 : nI (at' + 8) + (nI L + nI (L % 2)) = nI (at' + 8 + L + L % 2) := by
    rw [nI_add, nI_add]
    exact congrArg nI (by omega)
  unfold f_X3_readInside J_X8_readChunk_383 J_X8_readChunk_524 f_X2_addFrom
  rw [e8, bn_s, if_neg n1, if_neg n0, if_neg n3, if_neg n2, bn_s, if_neg (show ¬ nI 4 = 0 by decide), if_neg (show ¬ nI 4 = 1 by decide), if_neg (show ¬ nI 4 = 2 by decide), if_neg (show ¬ nI 4 = 3 by decide), if_neg (show ¬ (4 : Int32) ≤ nI o by rw [show (4 : Int32) = nI 4 from rfl, nI_leI (by omega) (by omega)]; omega), if_neg (nI_pos (show L < 2 ^ 31 by omega)), if_pos (show nI L ≤ 60 by rw [show (60 : Int32) = nI 60 from rfl, nI_leI (by omega) (by omega)]; exact hL), v_four1 (by omega), bd_s, gin_n ho4 (by omega), bn_s, gin_n ho4 (by omega), bn_s, gin_n ho4 (by omega), bn_s, gin_n ho4 (by omega), bn_s, nI_clamp (by omega), l_oth1 ho4 hL (by omega) hN, l_oth8 ho4 hL (by omega) hN, bn_s, bn_s, bn_s, bn_s, bd_s, bd_s, show nI o + (1 : Int32) = nI (o + 1) from nI_add o 1, e2, o4, hnm]
  refine rel2_s (Or.inr ⟨rfl, rfl, _, hd, me, st, bl, 1, o + 1, by omega, by omega, ⟨⟨h0, h1, h2, h3, by omega, by omega, hbm⟩, ⟨rfl, en2, rfl, rfl, rfl, rfl, rfl⟩, ⟨z, k, s, l, ⟨rfl, hz1, hz2⟩, hme0, hme1, ⟨rfl, rfl, hk8, hk0⟩, hbl, hBk⟩, ⟨d, rfl, rfl, hd40, hst0, hstk⟩, ⟨fun i => if i = o then L else ln i, rfl, rfl, ?_⟩⟩⟩)
  intro i hi
  show (if i = o then L else ln i) ≤ 60 ∧ upd nN o (fr b at') i = upd lt o (fr b at') i ∧ upd lg o (nI L) i = nI (if i = o then L else ln i) ∧ upd nL o (nI L) i = nI (if i = o then L else ln i) ∧ ∀ j, j < (if i = o then L else ln i) → filo (60 * o) 0 L (fun i => fl (at' + 8 + i)) nBy (60 * i + j) = filo (60 * o) 0 L (fun i => b (at' + 8 + i)) by' (60 * i + j) ∧ Byt (filo (60 * o) 0 L (fun i => b (at' + 8 + i)) by' (60 * i + j))
  by_cases hio : i = o
  · subst hio
    rw [if_pos rfl, upd_s, upd_s, upd_s, upd_s]
    refine ⟨hL, rfl, rfl, rfl, fun j hj => ?_⟩
    rw [filo_in hj, filo_in hj]
    exact hb _ (by omega)
  · rw [if_neg hio, upd_n hio, upd_n hio, upd_n hio, upd_n hio]
    obtain ⟨q1, q2, q3, q4, q5⟩ := hoth i (by omega)
    refine ⟨q1, q2, q3, q4, fun j hj => ?_⟩
    rw [filo_out (by omega), filo_out (by omega)]
    exact q5 j hj
