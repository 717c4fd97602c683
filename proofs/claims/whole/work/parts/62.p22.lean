/-! ===== reading stack, blocks, others ===== -/
theorem l_stk1 {p m : Nat} (hm : m ≤ 40) (hp : p + 4 * m ≤ 1200) {b : Nat → Int32} {K : (Nat → Int32) → Int32 → Int32 → Option (Int32 × (Nat → Int32) × Int32)} : ∀ (c fuel k : Nat) (stk : Nat → Int32), k + c = m → c < fuel → L_X3_readStack_3 (nI p) (nI m) b K fuel stk (nI k) (nI k) = K (filo 0 k m (fun i => fr b (p + 4 * i)) stk) (nI m) (nI m) := by
  intro c
  induction c with
  | zero =>
    intro fuel k stk h1 h2
    obtain ⟨f, rfl⟩ : ∃ f, fuel = f + 1 := ⟨fuel - 1, by omega⟩
    obtain rfl : k = m := by omega
    show B_X3_readStack_3 _ _ _ _ _ _ _ _ = _
    unfold B_X3_readStack_3
    rw [if_pos (by rw [nI_leI (by omega) (by omega)]; omega), filo_e (Nat.le_refl _)]
  | succ c ih =>
    intro fuel k stk h1 h2
    obtain ⟨f, rfl⟩ : ∃ f, fuel = f + 1 := ⟨fuel - 1, by omega⟩
    show B_X3_readStack_3 _ _ _ _ _ _ _ _ = _
    unfold B_X3_readStack_3 f_X1_addInt
    simp (disch := omega) only [show (4 : Int32) = nI 4 from rfl, show (40 : Int32) = nI 40 from rfl, show (1 : Int32) = nI 1 from rfl, nI_mul, nI_add, nI_leI, nI_ltI, v_four1, gin_n, nI_clamp, bd_s, bn_s, nI_inc]
    rw [if_neg (by omega), if_pos (by omega)]
    have e := ih f (k + 1) (upd stk k (fr b (p + 4 * k))) (by omega) (by omega)
    have e2 := filo_st (c := 0) (a := k) (b := m) (g := fun i => fr b (p + 4 * i)) (z := stk) (by omega)
    rw [Nat.zero_add] at e2
    rw [e2] at e
    exact e
theorem l_stk8 {p m : Nat} (hm : m ≤ 40) (hp : p + 4 * m ≤ 1200) {b : Nat → Int32} {K : (Nat → Int32) → Int32 → Option (Int32 × (Nat → Int32) × Int32 × Int32)} {N : Nat} (hN : 5000 ≤ N) (stk : Nat → Int32) : L_X8_readStack_34 (nI p) b (nI m) K N stk 0 = K (filo 0 0 m (fun i => fr b (p + 4 * i)) stk) (nI m) := by
  refine loop1 (L := L_X8_readStack_34 (nI p) b (nI m) K) (K := K) 0 m (fun i => fr b (p + 4 * i)) (fun _ _ => True) ?_ ?_ (fun _ _ _ _ => trivial) m N 0 stk trivial (by omega) (by omega)
  · intro f y
    show B_X8_readStack_34 _ _ _ _ _ _ _ = _
    unfold B_X8_readStack_34
    rw [if_pos (by rw [nI_leI (by omega) (by omega)]; omega)]
  · intro f y i hp hi
    show B_X8_readStack_34 _ _ _ _ _ _ _ = _
    unfold B_X8_readStack_34
    rw [Nat.zero_add]
    simp (disch := omega) only [show (4 : Int32) = nI 4 from rfl, nI_mul, nI_add, nI_leI, v_four8, gin_n, nI_clamp, bd_s, bn_s, nI_inc]
    rw [if_neg (by omega)]
theorem l_oth1 {at' L o : Nat} (ho : o < 4) (hL : L ≤ 60) (ha : at' + 8 + L ≤ 1200) {b : Nat → Int32} {K : (Nat → Int32) → Int32 → Option (Int32 × (Nat → Int32) × (Nat → Int32) × (Nat → Int32))} {N : Nat} (hN : 5000 ≤ N) (z : Nat → Int32) : L_X2_addFrom_46 (nI at') (nI L) (nI o) b K N z 0 = K (filo (60 * o) 0 L (fun i => b (at' + 8 + i)) z) (nI L) := by
  refine loop1 (L := L_X2_addFrom_46 (nI at') (nI L) (nI o) b K) (K := K) (60 * o) L (fun i => b (at' + 8 + i)) (fun _ _ => True) ?_ ?_ (fun _ _ _ _ => trivial) L N 0 z trivial (by omega) (by omega)
  · intro f y
    show B_X2_addFrom_46 _ _ _ _ _ _ _ _ = _
    unfold B_X2_addFrom_46
    rw [if_pos (by rw [nI_leI (by omega) (by omega)]; omega)]
  · intro f y i hp hi
    show B_X2_addFrom_46 _ _ _ _ _ _ _ _ = _
    unfold B_X2_addFrom_46
    simp (disch := omega) only [show (8 : Int32) = nI 8 from rfl, show (60 : Int32) = nI 60 from rfl, nI_mul, nI_add, nI_leI, v_byteAt, gin_n, nI_clamp, bd_s, bn_s, nI_inc, Nat.mul_comm o 60]
    rw [if_neg (by omega)]
theorem l_oth8 {at' L o : Nat} (ho : o < 4) (hL : L ≤ 60) (ha : at' + 8 + L ≤ 1200) {b : Nat → Int32} {K : (Nat → Int32) → Int32 → Option (Int32 × Int32 × (Nat → Int32) × Int32 × (Nat → Int32) × Int32 × (Nat → Int32) × (Nat → Int32) × Int32 × (Nat → Int32) × (Nat → Int32) × (Nat → Int32) × Int32 × Int32 × Int32)} {N : Nat} (hN : 5000 ≤ N) (z : Nat → Int32) : L_X8_readChunk_474 (nI o) b (nI L) (nI (at' + 8)) K N z 0 = K (filo (60 * o) 0 L (fun i => b (at' + 8 + i)) z) (nI L) := by
  refine loop1 (L := L_X8_readChunk_474 (nI o) b (nI L) (nI (at' + 8)) K) (K := K) (60 * o) L (fun i => b (at' + 8 + i)) (fun _ _ => True) ?_ ?_ (fun _ _ _ _ => trivial) L N 0 z trivial (by omega) (by omega)
  · intro f y
    show B_X8_readChunk_474 _ _ _ _ _ _ _ _ = _
    unfold B_X8_readChunk_474
    rw [if_pos (by rw [nI_leI (by omega) (by omega)]; omega)]
  · intro f y i hp hi
    show B_X8_readChunk_474 _ _ _ _ _ _ _ _ = _
    unfold B_X8_readChunk_474
    simp (disch := omega) only [show (60 : Int32) = nI 60 from rfl, nI_mul, nI_add, nI_leI, gin_n, nI_clamp, bd_s, bn_s, nI_inc]
    rw [if_neg (by omega)]
theorem nI_max (a b : Nat) (ha : a < 2 ^ 31) (hb : b < 2 ^ 31) : i_max (nI a) (nI b) = nI (max a b) := by
  unfold i_max
  simp (disch := omega) only [nI_ltI]
  by_cases h : a < b
  · rw [if_pos h, Nat.max_eq_right (by omega)]
  · rw [if_neg h, Nat.max_eq_left (by omega)]
theorem v_addEnd {a b k : Nat} {st ln : Nat → Int32} {s l : Nat → Nat} (ha : a + b ≤ 2000) (hb : 1 ≤ b) (hk : k < 8) (hs : ∀ i, i < k → st i = nI (s i) ∧ s i + l i ≤ 512) (hG : Gap k a b k s l) {N : Nat} (hN : 5000 ≤ N) : f_X1_addBlock N (nI a) (nI b) (nI k) st ln = some (1, upd st k (nI a), upd ln k (nI b), nI (k + 1)) := by
  unfold f_X1_addBlock
  have u1 := fun K => l_up1 (k := k) (p := k) (st := st) (ln := ln) (K := K) ha hb hk hs hG 0 N k (by omega) (Nat.le_refl _) (by omega)
  simp only [shf_e] at u1
  rw [if_pos (by rw [show (8 : Int32) = nI 8 from rfl, nI_ltI (by omega) (by omega)]; exact hk), u1]
  simp (disch := omega) only [gin_n, nI_clamp, bn_s, show nI k + (1 : Int32) = nI (k + 1) from nI_add k 1]
theorem blk_stop {p : Nat} {b : Nat → Int32} {u x : Int32} {K : (Nat → Int32) → (Nat → Int32) → Int32 → Int32 → Int32 → Int32 → Option (Int32 × (Nat → Int32) × (Nat → Int32) × Int32 × Int32)} (f : Nat) (m1 m2 : Nat → Int32) (y i j : Int32) : L_X8_readBlocks_77 (nI p) u b x K (f + 1) m1 m2 7 y i j = K m1 m2 7 y i j := by
  show B_X8_readBlocks_77 _ _ _ _ _ _ _ _ _ _ _ _ = _
  unfold B_X8_readBlocks_77
  by_cases h : x ≤ j
  · rw [if_pos h]
  · rw [if_neg h, if_neg (by decide)]
theorem lk_blkr {n p m en z : Nat} (hpm : p + 4 + 8 * m ≤ n) (hn : n ≤ 1200) (hm : m ≤ 8) (he : en ≤ 256) (hz : z ≤ 512) {b b' : Nat → Int32} (hb : ∀ i, i < n → b' i = b i ∧ Byt (b i)) {N : Nat} (hN : 5000 ≤ N) (K : (Nat → Int32) → (Nat → Int32) → Int32 → Int32 → Option (Int32 × Int32 × Int32 × (Nat → Int32) × (Nat → Int32) × Int32)) (K' : (Nat → Int32) → (Nat → Int32) → Int32 → Int32 → Int32 → Int32 → Option (Int32 × (Nat → Int32) × (Nat → Int32) × Int32 × Int32)) : ∀ (c fuel k le : Nat) (q : Int32) (st ln st' ln' : Nat → Int32) (s l : Nat → Nat), k + c = m → c + 1 < fuel → (∀ i, i < k → st i = nI (s i) ∧ ln i = nI (l i) ∧ st' i = nI (s i) ∧ ln' i = nI (l i)) → Blk en z k s l → en ≤ le → le ≤ 512 → (∀ i, i < k → s i + l i ≤ le) → (le = en ∨ ∃ i, i < k ∧ le = s i + l i) → (∃ st2 ln2 st2' ln2' s2 l2 x, L_X3_readBlocks_20 N (nI p) (nI m) b (nI en) (nI z) K fuel st ln (nI k) (nI k) = K st2 ln2 (nI m) (nI m) ∧ L_X8_readBlocks_77 (nI p) (nI z) b' (nI m) K' fuel st' ln' 0 q (nI le) (nI k) = K' st2' ln2' 0 q x (nI m) ∧ (∀ i, i < m → st2 i = nI (s2 i) ∧ ln2 i = nI (l2 i) ∧ st2' i = nI (s2 i) ∧ ln2' i = nI (l2 i)) ∧ Blk en z m s2 l2) ∨ (∃ y a1 a2 a3 d1 d2 d3 d4, L_X3_readBlocks_20 N (nI p) (nI m) b (nI en) (nI z) K fuel st ln (nI k) (nI k) = some (0, 7, y, a1, a2, a3) ∧ L_X8_readBlocks_77 (nI p) (nI z) b' (nI m) K' fuel st' ln' 0 q (nI le) (nI k) = K' d1 d2 7 y d3 d4) := by
  intro c
  induction c with
  | zero =>
    intro fuel k le q st ln st' ln' s l h1 h2 hs hB hle hle2 hl1 hl2
    obtain ⟨f, rfl⟩ : ∃ f, fuel = f + 1 := ⟨fuel - 1, by omega⟩
    obtain rfl : k = m := by omega
    refine Or.inl ⟨st, ln, st', ln', s, l, nI le, ?_, ?_, hs, hB⟩
    · show B_X3_readBlocks_20 _ _ _ _ _ _ _ _ _ _ _ _ = _
      unfold B_X3_readBlocks_20
      rw [if_pos (by rw [nI_leI (by omega) (by omega)]; omega)]
    · show B_X8_readBlocks_77 _ _ _ _ _ _ _ _ _ _ _ _ = _
      unfold B_X8_readBlocks_77
      rw [if_pos (by rw [nI_leI (by omega) (by omega)]; omega)]
  | succ c ih =>
    intro fuel k le q st ln st' ln' s l h1 h2 hs hB hle hle2 hl1 hl2
    obtain ⟨f, rfl⟩ : ∃ f, fuel = f + 2 := ⟨fuel - 2, by omega⟩
    have hkm : ¬ nI m ≤ nI k := by rw [nI_leI (by omega) (by omega)]; omega
    have f1 : fr b' (p + 4 + 8 * k) = fr b (p + 4 + 8 * k) := fr_congr hb (by omega)
    have f2 : fr b' (p + 4 + 8 * k + 4) = fr b (p + 4 + 8 * k + 4) := fr_congr hb (by omega)
    obtain ⟨e, he1, he2, he3, he4⟩ := v_blocksEnd (show k ≤ 8 by omega) hz (fun i hi => ⟨(hs i hi).1, (hs i hi).2.1⟩) hB
    have hmax : max en e = le := by
      rcases hl2 with h3 | ⟨i, hi, h3⟩
      · rcases he4 with h4 | ⟨j, hj, h4⟩
        · omega
        · have := hl1 j hj
          omega
      · have h5 := he3 i hi
        rcases he4 with h4 | ⟨j, hj, h4⟩
        · have := (hB i hi).2.1
          omega
        · have := hl1 j hj
          omega
    generalize hv : fr b (p + 4 + 8 * k) = v at f1
    generalize hu : fr b (p + 4 + 8 * k + 4) = u at f2
    have F1 : L_X3_readBlocks_20 N (nI p) (nI m) b (nI en) (nI z) K (f + 2) st ln (nI k) (nI k) = bd (f_X1_fits N v u (nI le) (nI z) (nI k) st ln) fun u17 => if u17 = 0 then some (0, 7, nI (p + 4 + 8 * k), st, ln, nI k) else bd (f_X1_addBlock N v u (nI k) st ln) fun u26 => if u26.1 = 0 then some (0, 7, nI (p + 4 + 8 * k), u26.2.1, u26.2.2.1, u26.2.2.2) else L_X3_readBlocks_20 N (nI p) (nI m) b (nI en) (nI z) K (f + 1) u26.2.1 u26.2.2.1 u26.2.2.2 (nI (k + 1)) := by
      show B_X3_readBlocks_20 _ _ _ _ _ _ _ _ _ _ _ _ = _
      unfold B_X3_readBlocks_20 J_X3_readBlocks_104
      rw [if_neg hkm, show (4 : Int32) = nI 4 from rfl, show (8 : Int32) = nI 8 from rfl, nI_mul, nI_add, nI_add, bn_s, v_four1 (by omega), bd_s, nI_add, v_four1 (by omega), bd_s, he2, bd_s, nI_max _ _ (by omega) (by omega), hmax, bn_s, hv, hu, nI_inc]
      rfl
    have F8 : L_X8_readBlocks_77 (nI p) (nI z) b' (nI m) K' (f + 2) st' ln' 0 q (nI le) (nI k) = if ((1 : Int) ≤ u.toInt ∧ u.toInt ≤ 64) ∧ ¬ v < nI le ∧ v ≤ nI z - u then L_X8_readBlocks_77 (nI p) (nI z) b' (nI m) K' (f + 1) (upd st' k v) (upd ln' k u) 0 q (v + u) (nI (k + 1)) else K' (upd st' k v) (upd ln' k u) 7 (nI (p + 4 + 8 * k)) (nI le) (nI (k + 1)) := by
      show B_X8_readBlocks_77 _ _ _ _ _ _ _ _ _ _ _ _ = _
      unfold B_X8_readBlocks_77 J_X8_readBlocks_178 J_X8_readBlocks_203
      rw [if_neg hkm, if_pos rfl, show (4 : Int32) = nI 4 from rfl, show (8 : Int32) = nI 8 from rfl, nI_mul, nI_add, nI_add, bn_s, v_four8 (by omega), bd_s, nI_add, v_four8 (by omega), f1, f2]
      have hg : ∀ {β : Type} (w : Option β), gin (nI k) 8 w = w := fun w => gin_n (by omega) (by omega)
      simp only [hg, nI_clamp (show k < 2 ^ 31 by omega), bn_s, bd_s, upd_s, in_n, bI_0, v_fail8, nI_inc, show (1 : Int64).toInt = 1 from rfl, show (64 : Int64).toInt = 64 from rfl, blk_stop]
      by_cases c1 : (1 : Int) ≤ u.toInt ∧ u.toInt ≤ 64
      · rw [if_neg (not_not_intro c1)]
        by_cases c2 : v < nI le
        · rw [if_pos c2, if_neg (fun d => d.2.1 c2)]
        · rw [if_neg c2]
          by_cases c3 : v ≤ nI z - u
          · rw [if_pos c3, if_pos ⟨c1, c2, c3⟩]
          · rw [if_neg c3, if_neg (fun d => c3 d.2.2)]
      · rw [if_pos c1, if_neg (fun d => c1 d.1)]
    rw [F1, F8]
    by_cases hG : ((1 : Int) ≤ u.toInt ∧ u.toInt ≤ 64) ∧ ¬ v < nI le ∧ v ≤ nI z - u
    · rw [if_pos hG]
      obtain ⟨c1, c2, c3⟩ := hG
      obtain ⟨g, hg1, hg2, hg3, rfl⟩ := low_hi (i := u) (a := 1) (b := 65) (by omega)
      have hsz : ∀ i, i < k → s i + l i ≤ z := fun i hi => (hB i hi).2.2.2.1
      rw [ltI, nI_toInt (by omega)] at c2
      by_cases hgz : g ≤ z
      · have c3' := c3
        rw [nI_sub hgz, leI, nI_toInt (show z - g < 2 ^ 31 by omega)] at c3'
        obtain ⟨a, ha1, ha2, ha3, rfl⟩ := low_hi (i := v) (a := le) (b := z - g + 1) (by omega)
        have gap : Gap k a g k s l := ⟨Nat.le_refl _, fun i hi => by have := hl1 i hi; omega, fun i h3 h4 => absurd h3 (by omega)⟩
        have vf : f_X1_fits N (nI a) (nI g) (nI le) (nI z) (nI k) st ln = some 1 := by
          unfold f_X1_fits
          rw [if_neg (by rw [nI_ltI (by omega) (by omega)]; omega), v_isLen, bd_s, bI_t c1, if_neg (by decide), if_pos c3, show (0 : Int32) = nI 0 from rfl, (l_fits (by omega) (by omega) (fun i hi => ⟨(hs i hi).1, (hs i hi).2.1, by have := hsz i hi; omega⟩) k N 0 (by omega) (by omega)).1 (fun j _ hj => Or.inl (gap.2.1 j hj))]
        rw [vf, bd_s, if_neg (by decide), v_addEnd (by omega) hg1 (by omega) (fun i hi => ⟨(hs i hi).1, by have := hsz i hi; omega⟩) gap hN, bd_s, if_neg (show ¬ (1 : Int32) = 0 by decide), nI_add]
        have arr : ∀ (x : Nat → Int32) (y : Nat) (t : Nat → Nat), (∀ i, i < k → x i = nI (t i)) → ∀ i, i < k + 1 → upd x k (nI y) i = nI (ins k y t i) := by
          intro x y t hx i hi
          have := ins_arr (k := k) (p := k) (a := y) (st := x) (s := t) (Nat.le_refl _) hx i hi
          rw [shf_e] at this
          exact this
        refine ih (f + 1) (k + 1) (a + g) q _ _ _ _ (ins k a s) (ins k g l) (by omega) (by omega) ?_ (Blk_ins hB gap (by omega) hg1 (by omega) (by omega)) (by omega) (by omega) ?_ (Or.inr ⟨k, by omega, by rw [ins_at, ins_at]⟩)
        · intro i hi
          exact ⟨arr _ _ _ (fun i hi => (hs i hi).1) i hi, arr _ _ _ (fun i hi => (hs i hi).2.1) i hi, arr _ _ _ (fun i hi => (hs i hi).2.2.1) i hi, arr _ _ _ (fun i hi => (hs i hi).2.2.2) i hi⟩
        · intro i hi
          by_cases h7 : i = k
          · rw [h7, ins_at, ins_at]
            omega
          · rw [ins_lo (by omega), ins_lo (by omega)]
            have := hl1 i (by omega)
            omega
      · exfalso
        rw [leI, subI (by rw [nI_toInt (show z < 2 ^ 31 by omega), nI_toInt hg3]; omega), nI_toInt (show z < 2 ^ 31 by omega), nI_toInt hg3] at c3
        omega
    · rw [if_neg hG]
      have vf : f_X1_fits N v u (nI le) (nI z) (nI k) st ln = some 0 := by
        unfold f_X1_fits
        by_cases c2 : v < nI le
        · rw [if_pos c2]
        · rw [if_neg c2, v_isLen, bd_s]
          simp only [bI_0]
          by_cases c1 : (1 : Int) ≤ u.toInt ∧ u.toInt ≤ 64
          · rw [if_neg (not_not_intro c1), if_neg (fun c3 => hG ⟨c1, c2, c3⟩)]
          · rw [if_pos c1]
      rw [vf, bd_s, if_pos rfl]
      exact Or.inr ⟨_, _, _, _, _, _, _, _, rfl, rfl⟩
