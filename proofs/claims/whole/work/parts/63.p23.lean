/-! ===== reading one chunk ===== -/
def Flt (f p now nowAt : Int32) : Prop := now = f ∧ nowAt = p ∧ 0 < f.toInt
/-- what the reader's machine and the reference's new one have in common between two chunks -/
def LR (seed : Int32) (en at' hd me st bl ot o : Nat) (next sH sM sS sB : Int32) (mem : (Nat → Int32)) (sz : Int32) (stk : (Nat → Int32)) (dp : Int32) (sts lns : (Nat → Int32)) (blk cnt : Int32) (lt lg by' : (Nat → Int32)) (mAt nM : Int32) (nMe : (Nat → Int32)) (nSL : Int32) (nSk : (Nat → Int32)) (nB : Int32) (nSt nLe : (Nat → Int32)) (nO : Int32) (nN nL nBy : (Nat → Int32)) (came : Int32) : Prop :=
  (hd < 2 ∧ me < 2 ∧ st < 2 ∧ bl < 2 ∧ ot < 2 ∧ o ≤ 4 ∧ (bl = 1 → me = 1)) ∧ (next = nI at' ∧ mAt = nI at' ∧ sH = nI hd ∧ sM = nI me ∧ sS = nI st ∧ sB = nI bl ∧ came = cmv hd me st bl ot) ∧ (∃ z k s l, (sz = nI z ∧ en ≤ z ∧ z ≤ 512) ∧ (me = 0 → z = en ∧ ∀ i, i < 512 → mem i = org seed en i) ∧ (me = 1 → nM = nI z ∧ ∀ i, i < z → nMe i = mem i ∧ Byt (mem i)) ∧ (blk = nI k ∧ nB = nI k ∧ k ≤ 8 ∧ (bl = 0 → k = 0)) ∧ (∀ i, i < k → sts i = nI (s i) ∧ lns i = nI (l i) ∧ nSt i = nI (s i) ∧ nLe i = nI (l i)) ∧ Blk en z k s l) ∧ (∃ d, dp = nI d ∧ nSL = nI d ∧ d ≤ 40 ∧ (st = 0 → d = 0) ∧ ∀ i, i < d → nSk i = stk i) ∧ (∃ ln : Nat → Nat, cnt = nI o ∧ nO = nI o ∧ ∀ k, k < o → ln k ≤ 60 ∧ nN k = lt k ∧ lg k = nI (ln k) ∧ nL k = nI (ln k) ∧ ∀ i, i < ln k → nBy (60 * k + i) = by' (60 * k + i) ∧ Byt (by' (60 * k + i)))
def ChQ (seed : Int32) (en c0 : Nat) (a : Int32 × Int32 × Int32 × Int32 × Int32 × Int32 × Int32 × Int32 × (Nat → Int32) × Int32 × (Nat → Int32) × Int32 × (Nat → Int32) × (Nat → Int32) × Int32 × Int32 × (Nat → Int32) × (Nat → Int32) × (Nat → Int32)) (b : Int32 × Int32 × (Nat → Int32) × Int32 × (Nat → Int32) × Int32 × (Nat → Int32) × (Nat → Int32) × Int32 × (Nat → Int32) × (Nat → Int32) × (Nat → Int32) × Int32 × Int32 × Int32) : Prop := (a.1 = 0 ∧ Flt a.2.1 a.2.2.1 b.2.2.2.2.2.2.2.2.2.2.2.2.2.1 b.2.2.2.2.2.2.2.2.2.2.2.2.2.2) ∨ (a.1 = 1 ∧ b.2.2.2.2.2.2.2.2.2.2.2.2.2.1 = 0 ∧ ∃ at' hd me st bl ot o, hd + me + st + bl + o = c0 ∧ at' ≤ 1200 ∧ LR seed en at' hd me st bl ot o (a.2.2.2.1) (a.2.2.2.2.1) (a.2.2.2.2.2.1) (a.2.2.2.2.2.2.1) (a.2.2.2.2.2.2.2.1) (a.2.2.2.2.2.2.2.2.1) (a.2.2.2.2.2.2.2.2.2.1) (a.2.2.2.2.2.2.2.2.2.2.1) (a.2.2.2.2.2.2.2.2.2.2.2.1) (a.2.2.2.2.2.2.2.2.2.2.2.2.1) (a.2.2.2.2.2.2.2.2.2.2.2.2.2.1) (a.2.2.2.2.2.2.2.2.2.2.2.2.2.2.1) (a.2.2.2.2.2.2.2.2.2.2.2.2.2.2.2.1) (a.2.2.2.2.2.2.2.2.2.2.2.2.2.2.2.2.1) (a.2.2.2.2.2.2.2.2.2.2.2.2.2.2.2.2.2.1) (a.2.2.2.2.2.2.2.2.2.2.2.2.2.2.2.2.2.2) (b.1) (b.2.1) (b.2.2.1) (b.2.2.2.1) (b.2.2.2.2.1) (b.2.2.2.2.2.1) (b.2.2.2.2.2.2.1) (b.2.2.2.2.2.2.2.1) (b.2.2.2.2.2.2.2.2.1) (b.2.2.2.2.2.2.2.2.2.1) (b.2.2.2.2.2.2.2.2.2.2.1) (b.2.2.2.2.2.2.2.2.2.2.2.1) (b.2.2.2.2.2.2.2.2.2.2.2.2.1))
theorem m_top {N ram en n at' w : Nat} {seed nM nSL nB nO cm q : Int32} {fl nN nL nBy nSt nLe nSk nMe : Nat → Int32} (ha : at' + 4 ≤ n) (hn : n ≤ 1200) (hw : Nm (fr fl at') w) : f_X8_readChunk N seed (nI ram) (nI en) (nI n) (nI at') nM nSL nB nO cm 0 q fl nN nL nBy nSt nLe nSk nMe = J_X8_readChunk_63 N seed (nI ram) (nI en) (nI n) (nI at') nM nSL nB nO cm fl nN nL nBy nSt nLe nSk nMe (1, 0, q) (fr fl at') (nI w) := by
  unfold f_X8_readChunk
  rw [v_has (k := 4) (by omega) rfl (by omega) hn, if_pos ha, bd_s, if_neg (show ¬ (1 : Int32) = 0 by decide), v_four8 (by omega), bd_s]
  rcases hw with ⟨rfl, e⟩ | ⟨rfl, e⟩ | ⟨rfl, e⟩ | ⟨rfl, e⟩ | ⟨rfl, n0, n1, n2, n3⟩
  · rw [if_pos e]; rfl
  · rw [if_neg (by rw [e]; decide), if_pos e]; rfl
  · rw [if_neg (by rw [e]; decide), if_neg (by rw [e]; decide), if_pos e]; rfl
  · rw [if_neg (by rw [e]; decide), if_neg (by rw [e]; decide), if_neg (by rw [e]; decide), if_pos e]; rfl
  · rw [if_neg n0, if_neg n1, if_neg n2, if_neg n3]; rfl
set_option maxHeartbeats 4000000 in
/-- up to the inside: both fail alike, or both come to it -/
theorem lk_pre {N ram en n at' hd me st bl ot o : Nat} {seed q f0 p0 sz dp blk nM nSL nB : Int32} {b fl r0 mem stk sts lns lt lg by' nN nL nBy nSt nLe nSk nMe : Nat → Int32} (hn : n ≤ 1200) (hat : at' < n) (hb : ∀ i, i < n → fl i = b i ∧ Byt (b i)) (h0 : hd < 2) (h1 : me < 2) (h2 : st < 2) (h3 : bl < 2) (h4 : ot < 2) (ho : o ≤ 4) (Q : Int32 × Int32 × Int32 × Int32 × Int32 × Int32 × Int32 × Int32 × (Nat → Int32) × Int32 × (Nat → Int32) × Int32 × (Nat → Int32) × (Nat → Int32) × Int32 × Int32 × (Nat → Int32) × (Nat → Int32) × (Nat → Int32) → Int32 × Int32 × (Nat → Int32) × Int32 × (Nat → Int32) × Int32 × (Nat → Int32) × (Nat → Int32) × Int32 × (Nat → Int32) × (Nat → Int32) × (Nat → Int32) × Int32 × Int32 × Int32 → Prop) (hF : ∀ f p c1 c2 c3 c4 c5 c6 c7 c8 c9 c10 c11 c12 c13 c14 c15 c16 d1 d2 d3 d4 d5 d6 d7 d8 d9 d10 d11 d12 d13, 0 < f.toInt → Q (0, f, p, c1, c2, c3, c4, c5, c6, c7, c8, c9, c10, c11, c12, c13, c14, c15, c16) (d1, d2, d3, d4, d5, d6, d7, d8, d9, d10, d11, d12, d13, f, p)) (hK : ∀ w L, w < 5 → Nm (fr b at') w → at' + 8 + L + L % 2 ≤ n → ¬ Seen w hd me st bl → ¬ Lack w hd me → Ok5 w (nI L) → ¬ Big w o (nI L) → rel2 (bd (f_X3_readInside N (fr b at') (nI at') (nI L) f0 p0 (nI hd) (nI me) (nI st) (nI bl) b (nI ram) (nI en) sz dp blk mem r0 sts lns stk (nI o) lt lg by') (fun u21 => gbo u21.1 (some (u21.1, u21.2.1, u21.2.2.1, nI (at' + 8 + L + L % 2), u21.2.2.2.1, u21.2.2.2.2.1, u21.2.2.2.2.2.1, u21.2.2.2.2.2.2.1, u21.2.2.2.2.2.2.2.1, u21.2.2.2.2.2.2.2.2.1, u21.2.2.2.2.2.2.2.2.2.1, u21.2.2.2.2.2.2.2.2.2.2.1, u21.2.2.2.2.2.2.2.2.2.2.2.1, u21.2.2.2.2.2.2.2.2.2.2.2.2.1, u21.2.2.2.2.2.2.2.2.2.2.2.2.2.1, u21.2.2.2.2.2.2.2.2.2.2.2.2.2.2.1, u21.2.2.2.2.2.2.2.2.2.2.2.2.2.2.2.1, u21.2.2.2.2.2.2.2.2.2.2.2.2.2.2.2.2.1, u21.2.2.2.2.2.2.2.2.2.2.2.2.2.2.2.2.2)))) (J_X8_readChunk_383 N seed (nI ram) (nI en) nM nSL nB (nI o) (cmv hd me st bl ot) fl nN nL nBy nSt nLe nSk nMe (fr b at') (nI w) (nI L) (nI (at' + 8)) (1, 0, q)) Q) : rel2 (f_X3_readChunk N (nI at') (nI n) f0 p0 (nI at') (nI hd) (nI me) (nI st) (nI bl) b (nI o) (nI ram) (nI en) sz dp blk mem r0 sts lns stk lt lg by') (f_X8_readChunk N seed (nI ram) (nI en) (nI n) (nI at') nM nSL nB (nI o) (cmv hd me st bl ot) 0 q fl nN nL nBy nSt nLe nSk nMe) Q := by
  by_cases hat4 : at' + 4 ≤ n
  · obtain ⟨w, hw5, hNm⟩ := Nm_ex (fr b at')
    have efr : fr fl at' = fr b at' := fr_congr hb hat4
    have hNm' : Nm (fr fl at') w := by rw [efr]; exact hNm
    rw [m_top hat4 hn hNm', efr]
    unfold f_X3_readChunk
    rw [v_reachesN (k := 4) (by omega) rfl (by omega) hn, if_pos hat4, bd_s, if_neg (show ¬ (1 : Int32) = 0 by decide), v_four1 (by omega), bd_s]
    dsimp only
    obtain ⟨a1, a2, a3⟩ := m_63 (N := N) (ram := ram) (en := en) (n := n) (at' := at') (seed := seed) (nM := nM) (nSL := nSL) (nB := nB) (nO := nI o) (nm := fr b at') (q := q) (fl := fl) (nN := nN) (nL := nL) (nBy := nBy) (nSt := nSt) (nLe := nLe) (nSk := nSk) (nMe := nMe) h0 h1 h2 h3 h4 hw5
    obtain ⟨b1, b2, b3⟩ := v_mayCome (at' := at') hNm h0 h1 h2 h3 f0 p0
    by_cases hs : Seen w hd me st bl
    · rw [a1 hs, b1 hs, bd_s, if_pos rfl]
      exact rel2_s (hF _ _ _ _ _ _ _ _ _ _ _ _ _ _ _ _ _ _ _ _ _ _ _ _ _ _ _ _ _ _ _ (by dsimp only; decide))
    · by_cases hl : Lack w hd me
      · rw [a2 hs hl, b2 hs hl, bd_s, if_pos rfl]
        exact rel2_s (hF _ _ _ _ _ _ _ _ _ _ _ _ _ _ _ _ _ _ _ _ _ _ _ _ _ _ _ _ _ _ _ (by dsimp only; decide))
      · rw [a3 hs hl, b3 hs hl, bd_s, if_neg (show ¬ (1 : Int32) = 0 by decide), show nI at' + (4 : Int32) = nI (at' + 4) from nI_add at' 4, v_reachesN (k := 4) (by omega) rfl (by omega) hn]
        obtain ⟨c1, c2, c3⟩ := m_139 (N := N) (ram := ram) (en := en) (n := n) (at' := at') (hd := hd) (me := me) (st := st) (bl := bl) (ot := ot) (seed := seed) (nM := nM) (nSL := nSL) (nB := nB) (nm := fr b at') (q := q) (fl := fl) (nN := nN) (nL := nL) (nBy := nBy) (nSt := nSt) (nLe := nLe) (nSk := nSk) (nMe := nMe) hw5 ho hn (show at' ≤ 1200 by omega)
        by_cases hat8 : at' + 8 ≤ n
        · have efr2 : fr fl (at' + 4) = fr b (at' + 4) := fr_congr hb (by omega)
          rw [efr2] at c2 c3
          rw [if_pos (show at' + 4 + 4 ≤ n by omega), bd_s, if_neg (show ¬ (1 : Int32) = 0 by decide), v_four1 (by omega), bd_s]
          dsimp only
          obtain ⟨e1, e2, e3⟩ := v_lenMay (at' := at') hNm ho (fr b (at' + 4)) f0 p0
          by_cases hok : Ok5 w (fr b (at' + 4))
          · rw [c3 hat8 hok]
            obtain ⟨g1, g2⟩ := m_296 (N := N) (ram := ram) (en := en) (n := n) (at' := at') (hd := hd) (me := me) (st := st) (bl := bl) (ot := ot) (seed := seed) (nM := nM) (nSL := nSL) (nB := nB) (nm := fr b at') (q := q) (fl := fl) (nN := nN) (nL := nL) (nBy := nBy) (nSt := nSt) (nLe := nLe) (nSk := nSk) (nMe := nMe) hw5 ho (fr b (at' + 4)) (nI (at' + 8))
            by_cases hbig : Big w o (fr b (at' + 4))
            · rw [g1 hbig, e2 hok hbig, bd_s, if_pos rfl]
              exact rel2_s (hF _ _ _ _ _ _ _ _ _ _ _ _ _ _ _ _ _ _ _ _ _ _ _ _ _ _ _ _ _ _ _ (by dsimp only; decide))
            · rw [g2 hbig, e3 hok hbig, bd_s, if_neg (show ¬ (1 : Int32) = 0 by decide)]
              dsimp only
              obtain ⟨L, hL, eL⟩ := nI_ex hok.1
              rw [eL] at hok hbig ⊢
              obtain ⟨k1, k2, k3⟩ := m_323 (N := N) (ram := ram) (en := en) (n := n) (at' := at') (hd := hd) (me := me) (st := st) (bl := bl) (ot := ot) (seed := seed) (nM := nM) (nSL := nSL) (nB := nB) (nO := nI o) (nm := fr b at') (q := q) (fl := fl) (nN := nN) (nL := nL) (nBy := nBy) (nSt := nSt) (nLe := nLe) (nSk := nSk) (nMe := nMe) (show at' ≤ 1200 by omega) hL hn (nI w)
              obtain ⟨l1, l2, l3⟩ := v_whole (show at' ≤ 1200 by omega) hL hn f0 p0 b
              by_cases hfit : at' + 8 + L + L % 2 ≤ n
              · have epad : L % 2 = 1 → fl (at' + 8 + L) = b (at' + 8 + L) := fun hodd => (hb _ (by omega)).1
                by_cases hpad : L % 2 = 1 ∧ b (at' + 8 + L) ≠ 0
                · rw [k2 hfit ⟨hpad.1, by rw [epad hpad.1]; exact hpad.2⟩, l2 hfit hpad, bd_s, if_pos rfl]
                  exact rel2_s (hF _ _ _ _ _ _ _ _ _ _ _ _ _ _ _ _ _ _ _ _ _ _ _ _ _ _ _ _ _ _ _ (by dsimp only; decide))
                · rw [k3 hfit (fun c => hpad ⟨c.1, by rw [← epad c.1]; exact c.2⟩), l3 hfit hpad, bd_s, if_neg (show ¬ (1 : Int32) = 0 by decide), show (8 : Int32) = nI 8 from rfl, show (1 : Int32) = nI 1 from rfl, nI_and, Nat.and_one_is_mod, nI_add, nI_add, nI_add, bn_s]
                  exact hK w L hw5 hNm hfit hs hl hok hbig
              · rw [k1 hfit, l1 hfit, bd_s, if_pos rfl]
                exact rel2_s (hF _ _ _ _ _ _ _ _ _ _ _ _ _ _ _ _ _ _ _ _ _ _ _ _ _ _ _ _ _ _ _ (by dsimp only; decide))
          · rw [c2 hat8 hok, e1 hok, bd_s, if_pos rfl]
            exact rel2_s (hF _ _ _ _ _ _ _ _ _ _ _ _ _ _ _ _ _ _ _ _ _ _ _ _ _ _ _ _ _ _ _ (by dsimp only; decide))
        · rw [c1 hat8, if_neg (show ¬ at' + 4 + 4 ≤ n by omega), bd_s, if_pos rfl]
          exact rel2_s (hF _ _ _ _ _ _ _ _ _ _ _ _ _ _ _ _ _ _ _ _ _ _ _ _ _ _ _ _ _ _ _ (by dsimp only; decide))
  · unfold f_X3_readChunk f_X8_readChunk
    rw [v_reachesN (k := 4) (by omega) rfl (by omega) hn, if_neg hat4, bd_s, if_pos rfl, v_has (k := 4) (by omega) rfl (by omega) hn, if_neg hat4, bd_s, if_pos rfl]
    exact rel2_s (hF _ _ _ _ _ _ _ _ _ _ _ _ _ _ _ _ _ _ _ _ _ _ _ _ _ _ _ _ _ _ _ (by dsimp only; decide))
