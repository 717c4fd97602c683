/-! ===== reading chunk after chunk ===== -/
theorem le_n {a b : Nat} (h : a ≤ b) (hb : b < 2 ^ 31) : nI a ≤ nI b := (nI_leI (by omega) hb).mpr h
theorem nle_n {a b : Nat} (h : b < a) (ha : a < 2 ^ 31) : ¬ nI a ≤ nI b := fun c => by
  rw [nI_leI ha (by omega)] at c
  omega
set_option maxHeartbeats 4000000 in
theorem lk_chunk {N ram en n at' hd me st bl ot o : Nat} {seed q f0 p0 sz dp blk nM nSL nB : Int32} {b fl r0 mem stk sts lns lt lg by' nN nL nBy nSt nLe nSk nMe : Nat → Int32} (hN : 5000 ≤ N) (hn : n ≤ 1200) (hram : 16 ≤ ram ∧ ram ≤ 96) (hen : 128 ≤ en ∧ en ≤ 256) (hb : ∀ i, i < n → fl i = b i ∧ Byt (b i)) (hr : ∀ i, i < 512 → r0 i = org seed en i) (hat : at' < n) (hLR : LR seed en at' hd me st bl ot o (nI at') (nI hd) (nI me) (nI st) (nI bl) mem sz stk dp sts lns blk (nI o) lt lg by' (nI at') nM nMe nSL nSk nB nSt nLe (nI o) nN nL nBy (cmv hd me st bl ot)) : rel2 (f_X3_readChunk N (nI at') (nI n) f0 p0 (nI at') (nI hd) (nI me) (nI st) (nI bl) b (nI o) (nI ram) (nI en) sz dp blk mem r0 sts lns stk lt lg by') (f_X8_readChunk N seed (nI ram) (nI en) (nI n) (nI at') nM nSL nB (nI o) (cmv hd me st bl ot) 0 q fl nN nL nBy nSt nLe nSk nMe) (ChQ seed en (hd + me + st + bl + o + 1)) := by
  obtain ⟨⟨h0, h1, h2, h3, h4, ho, hbm⟩, _⟩ := id hLR
  refine lk_pre hn hat hb h0 h1 h2 h3 h4 ho _ (fun f p _ _ _ _ _ _ _ _ _ _ _ _ _ _ _ _ _ _ _ _ _ _ _ _ _ _ _ _ _ h => Or.inl ⟨rfl, rfl, rfl, h⟩) ?_
  intro w L hw5 hNm hfit hs hl hok hbig
  have hL : L < 2 ^ 31 := by omega
  rcases hNm with ⟨rfl, e⟩ | ⟨rfl, e⟩ | ⟨rfl, e⟩ | ⟨rfl, e⟩ | ⟨rfl, n0, n1, n2, n3⟩
  · rw [e]
    have k1 : L = 16 := (nI_eq hL (by decide)).mp (hok.2.1 rfl)
    have k2 : hd ≠ 1 := fun c => hs (Or.inl ⟨rfl, c⟩)
    exact in_0 hN hn hram hen hb hr hfit hLR k1 (by omega)
  · rw [e]
    have k1 := hok.2.2.1 rfl
    rw [nI_toInt hL] at k1
    have k2 : me ≠ 1 := fun c => hs (Or.inr (Or.inl ⟨rfl, c⟩))
    have k3 : bl ≠ 1 := fun c => k2 (hbm c)
    exact in_1 hN hn hram hen hb hr hfit hLR (by omega) (by omega) (by omega)
  · rw [e]
    obtain ⟨k1, k2⟩ := hok.2.2.2.1 rfl
    rw [nI_toInt hL] at k2
    rw [show i_rem (nI L) 4 = nI (L % 4) from nI_rem (b := 4) hL (by omega), eq0_n (by omega)] at k1
    have k3 : st ≠ 1 := fun c => hs (Or.inr (Or.inr (Or.inl ⟨rfl, c⟩)))
    exact in_2 hN hn hram hen hb hr hfit hLR (by omega) k1 (by omega)
  · rw [e]
    obtain ⟨k1, k2, k4⟩ := hok.2.2.2.2 rfl
    rw [nI_toInt hL] at k1 k2
    rw [show i_rem (nI L) 8 = nI (L % 8) from nI_rem (b := 8) hL (by omega), show (4 : Int32) = nI 4 from rfl, nI_eq (by omega) (by omega)] at k4
    have k3 : bl ≠ 1 := fun c => hs (Or.inr (Or.inr (Or.inr ⟨rfl, c⟩)))
    have k5 : me ≠ 0 := fun c => hl (Or.inr ⟨rfl, c⟩)
    exact in_3 hN hn hram hen hb hr hfit hLR (by omega) k4 (by omega) (by omega)
  · have k1 : ¬ o = 4 := fun c => hbig ⟨rfl, Or.inl c⟩
    have k2 : ¬ (60 : Int) < (nI L).toInt := fun c => hbig ⟨rfl, Or.inr c⟩
    rw [nI_toInt hL] at k2
    exact in_4 hN hn hram hen hb hr hfit hLR (by omega) (by omega) rfl n0 n1 n2 n3
theorem all_stop (N g : Nat) (seed ram en n : Int32) (fl : Nat → Int32) (K' : Int32 → Int32 → (Nat → Int32) → Int32 → (Nat → Int32) → Int32 → (Nat → Int32) → (Nat → Int32) → Int32 → (Nat → Int32) → (Nat → Int32) → (Nat → Int32) → Int32 → Int32 → Int32 → Option (Int32 × Int32 × (Nat → Int32) × Int32 × (Nat → Int32) × Int32 × (Nat → Int32) × (Nat → Int32) × Int32 × (Nat → Int32) × (Nat → Int32) × (Nat → Int32) × Int32 × Int32 × Int32)) (d1 : Int32) (d2 : Int32) (d3 : (Nat → Int32)) (d4 : Int32) (d5 : (Nat → Int32)) (d6 : Int32) (d7 : (Nat → Int32)) (d8 : (Nat → Int32)) (d9 : Int32) (d10 : (Nat → Int32)) (d11 : (Nat → Int32)) (d12 : (Nat → Int32)) (d13 : Int32) (d14 : Int32) (d15 : Int32) (h : d14 ≠ 0) : L_X8_readAll_64 N seed ram en n fl K' (g + 1) d1 d2 d3 d4 d5 d6 d7 d8 d9 d10 d11 d12 d13 d14 d15 = K' d1 d2 d3 d4 d5 d6 d7 d8 d9 d10 d11 d12 d13 d14 d15 := by
  show B_X8_readAll_64 _ _ _ _ _ _ _ _ _ _ _ _ _ _ _ _ _ _ _ _ _ _ _ = _
  unfold B_X8_readAll_64
  rw [if_neg h]
set_option maxHeartbeats 4000000 in
theorem lk_loop {N ram en n : Nat} {seed : Int32} {b fl r0 : Nat → Int32} (hN : 5000 ≤ N) (hn : n ≤ 1200) (hram : 16 ≤ ram ∧ ram ≤ 96) (hen : 128 ≤ en ∧ en ≤ 256) (hb : ∀ i, i < n → fl i = b i ∧ Byt (b i)) (hr : ∀ i, i < 512 → r0 i = org seed en i) (K : Int32 → Int32 → Int32 → Int32 → Int32 → Int32 → Int32 → (Nat → Int32) → Int32 → (Nat → Int32) → Int32 → (Nat → Int32) → (Nat → Int32) → Int32 → Int32 → (Nat → Int32) → (Nat → Int32) → (Nat → Int32) → Int32 → Option (Int32 × Int32 × Int32 × Int32 × Int32 × Int32 × Int32 × Int32 × (Nat → Int32) × Int32 × (Nat → Int32) × Int32 × (Nat → Int32) × (Nat → Int32) × Int32 × Int32 × (Nat → Int32) × (Nat → Int32) × (Nat → Int32))) (K' : Int32 → Int32 → (Nat → Int32) → Int32 → (Nat → Int32) → Int32 → (Nat → Int32) → (Nat → Int32) → Int32 → (Nat → Int32) → (Nat → Int32) → (Nat → Int32) → Int32 → Int32 → Int32 → Option (Int32 × Int32 × (Nat → Int32) × Int32 × (Nat → Int32) × Int32 × (Nat → Int32) × (Nat → Int32) × Int32 × (Nat → Int32) × (Nat → Int32) × (Nat → Int32) × Int32 × Int32 × Int32)) (Q : Int32 × Int32 × Int32 × Int32 × Int32 × Int32 × Int32 × Int32 × (Nat → Int32) × Int32 × (Nat → Int32) × Int32 × (Nat → Int32) × (Nat → Int32) × Int32 × Int32 × (Nat → Int32) × (Nat → Int32) × (Nat → Int32) → Int32 × Int32 × (Nat → Int32) × Int32 × (Nat → Int32) × Int32 × (Nat → Int32) × (Nat → Int32) × Int32 × (Nat → Int32) × (Nat → Int32) × (Nat → Int32) × Int32 × Int32 × Int32 → Prop) (hF : ∀ (f p : Int32) (c1 : Int32) (c2 : Int32) (c3 : Int32) (c4 : Int32) (c5 : Int32) (c6 : (Nat → Int32)) (c7 : Int32) (c8 : (Nat → Int32)) (c9 : Int32) (c10 : (Nat → Int32)) (c11 : (Nat → Int32)) (c12 : Int32) (c13 : Int32) (c14 : (Nat → Int32)) (c15 : (Nat → Int32)) (c16 : (Nat → Int32)) (d1 : Int32) (d2 : Int32) (d3 : (Nat → Int32)) (d4 : Int32) (d5 : (Nat → Int32)) (d6 : Int32) (d7 : (Nat → Int32)) (d8 : (Nat → Int32)) (d9 : Int32) (d10 : (Nat → Int32)) (d11 : (Nat → Int32)) (d12 : (Nat → Int32)) (d13 : Int32), 0 < f.toInt → rel2 (some (0, f, p, c1, c2, c3, c4, c5, c6, c7, c8, c9, c10, c11, c12, c13, c14, c15, c16)) (K' d1 d2 d3 d4 d5 d6 d7 d8 d9 d10 d11 d12 d13 f p) Q) (hK : ∀ (f p q x : Int32) (at' hd me st bl ot o : Nat) (next sH sM sS sB : Int32) (mem : Nat → Int32) (sz : Int32) (stk : Nat → Int32) (dp : Int32) (sts lns : Nat → Int32) (blk cnt : Int32) (lt lg by' : Nat → Int32) (mAt nM : Int32) (nMe : Nat → Int32) (nSL : Int32) (nSk : Nat → Int32) (nB : Int32) (nSt nLe : Nat → Int32) (nO : Int32) (nN nL nBy : Nat → Int32) (came : Int32), LR seed en at' hd me st bl ot o next sH sM sS sB mem sz stk dp sts lns blk cnt lt lg by' mAt nM nMe nSL nSk nB nSt nLe nO nN nL nBy came → rel2 (K f p next sH sM sS sB mem sz stk dp sts lns blk cnt lt lg by' x) (K' mAt nM nMe nSL nSk nB nSt nLe nO nN nL nBy came 0 q) Q) : ∀ (c fuel at' hd me st bl ot o : Nat) (f p q : Int32) (next sH sM sS sB : Int32) (mem : Nat → Int32) (sz : Int32) (stk : Nat → Int32) (dp : Int32) (sts lns : Nat → Int32) (blk cnt : Int32) (lt lg by' : Nat → Int32) (mAt nM : Int32) (nMe : Nat → Int32) (nSL : Int32) (nSk : Nat → Int32) (nB : Int32) (nSt nLe : Nat → Int32) (nO : Int32) (nN nL nBy : Nat → Int32) (came : Int32), hd + me + st + bl + o + c = 9 → c + 2 ≤ fuel → at' ≤ 1200 → LR seed en at' hd me st bl ot o next sH sM sS sB mem sz stk dp sts lns blk cnt lt lg by' mAt nM nMe nSL nSk nB nSt nLe nO nN nL nBy came → rel2 (L_X3_read_16 N (nI ram) (nI en) r0 (nI n) b K fuel f p next sH sM sS sB mem sz stk dp sts lns blk cnt lt lg by' (nI (hd + me + st + bl + o))) (L_X8_readAll_64 N seed (nI ram) (nI en) (nI n) fl K' fuel mAt nM nMe nSL nSk nB nSt nLe nO nN nL nBy came 0 q) Q := by
  intro c
  induction c with
  | zero =>
    intro fuel at' hd me st bl ot o f p q next sH sM sS sB mem sz stk dp sts lns blk cnt lt lg by' mAt nM nMe nSL nSk nB nSt nLe nO nN nL nBy came h1 h2 h3 hLR
    obtain ⟨⟨_, _, _, _, _, _, _⟩, _⟩ := hLR
    exfalso
    omega
  | succ c ih =>
    intro fuel at' hd me st bl ot o f p q next sH sM sS sB mem sz stk dp sts lns blk cnt lt lg by' mAt nM nMe nSL nSk nB nSt nLe nO nN nL nBy came h1 h2 h3 hLR
    obtain ⟨g, rfl⟩ : ∃ g, fuel = g + 1 := ⟨fuel - 1, by omega⟩
    have hK0 := hK f p q (nI (hd + me + st + bl + o)) at' hd me st bl ot o next sH sM sS sB mem sz stk dp sts lns blk cnt lt lg by' mAt nM nMe nSL nSk nB nSt nLe nO nN nL nBy came hLR
    obtain ⟨⟨h0, h1', h2', h3', h4, ho, hbm⟩, ⟨rfl, rfl, rfl, rfl, rfl, rfl, rfl⟩, _, _, ⟨ln, rfl, rfl, hoth⟩⟩ := id hLR
    show rel2 (B_X3_read_16 _ _ _ _ _ _ _ _ _ _ _ _ _ _ _ _ _ _ _ _ _ _ _ _ _ _ _) (B_X8_readAll_64 _ _ _ _ _ _ _ _ _ _ _ _ _ _ _ _ _ _ _ _ _ _ _) Q
    unfold B_X3_read_16 B_X8_readAll_64
    rw [if_neg (show ¬ (9 : Int32) ≤ nI (hd + me + st + bl + o) by rw [show (9 : Int32) = nI 9 from rfl, nI_leI (by omega) (by omega)]; omega), if_pos rfl]
    by_cases hat : at' < n
    · rw [if_neg (nle_n hat (by omega)), if_neg (nle_n hat (by omega))]
      refine rel2_bd (lk_chunk (f0 := f) (p0 := p) (q := q) hN hn hram hen hb hr hat hLR) ?_
      rintro ⟨a1, a2, a3, a4, a5, a6, a7, a8, a9, a10, a11, a12, a13, a14, a15, a16, a17, a18, a19⟩ ⟨b1, b2, b3, b4, b5, b6, b7, b8, b9, b10, b11, b12, b13, b14, b15⟩ h
      unfold ChQ at h
      dsimp only at h ⊢
      rcases h with ⟨e, e2, e3, e4⟩ | ⟨e, e2, at2, hd2, me2, st2, bl2, ot2, o2, hc, ha2, hLR2⟩
      · obtain ⟨g2, rfl⟩ : ∃ g2, g = g2 + 1 := ⟨g - 1, by omega⟩
        have hne : b14 ≠ 0 := by
          intro c2
          rw [← e2, c2] at e4
          exact absurd e4 (by decide)
        rw [if_pos e, all_stop _ _ _ _ _ _ _ _ _ _ _ _ _ _ _ _ _ _ _ _ _ _ _ hne, e2, e3]
        exact hF _ _ _ _ _ _ _ _ _ _ _ _ _ _ _ _ _ _ _ _ _ _ _ _ _ _ _ _ _ _ _ e4
      · subst e2
        rw [if_neg (by rw [e]; decide), bn_s, nI_inc, ← hc]
        exact ih g at2 hd2 me2 st2 bl2 ot2 o2 _ _ _ _ _ _ _ _ _ _ _ _ _ _ _ _ _ _ _ _ _ _ _ _ _ _ _ _ _ _ _ _ (by omega) (by omega) ha2 hLR2
    · have hle : nI n ≤ nI at' := le_n (by omega) (by omega)
      rw [if_pos hle, if_pos hle]
      exact hK0
