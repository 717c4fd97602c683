/-! ===== resize ===== -/
theorem rgE {x : Int32} {a b : Nat} {c : Int32} (h : (a : Int) ≤ x.toInt ∧ x.toInt ≤ b ∧ i_rem x c = 0) : ∃ n : Nat, a ≤ n ∧ n ≤ b ∧ n < 2 ^ 31 ∧ x = nI n := by
  obtain ⟨n, h1, h2, h3, e⟩ := low_hi (i := x) (a := a) (b := b + 1) ⟨h.1, by omega⟩
  exact ⟨n, h1, by omega, h3, e⟩
theorem v_allows (x : Int32) {en : Nat} (he : en < 2 ^ 31) : f_X4_allowsSize x (nI en) = some (bI ((en : Int) ≤ x.toInt ∧ x.toInt ≤ (512 : Nat) ∧ i_rem x 32 = 0)) := by
  unfold f_X4_allowsSize
  rw [v_inSteps _ _ _ _ (by decide), bd_s, nI_toInt he]
  by_cases h : (en : Int) ≤ x.toInt ∧ x.toInt ≤ (512 : Int32).toInt ∧ i_rem x 32 = 0
  · rw [bI_t h]
    exact (congrArg some (bI_t h).symm)
  · rw [bI_f h]
    exact (congrArg some (bI_f h).symm)
theorem v_isSize (x : Int32) {en : Nat} (he : en < 2 ^ 31) : f_X8_isSize x (nI en) = some (bI ((en : Int) ≤ x.toInt ∧ x.toInt ≤ (512 : Nat) ∧ i_rem x 32 = 0)) := by
  unfold f_X8_isSize
  rw [in_n, bd_s, tiL, nI_toInt he, show (512 : Int64).toInt = (512 : Nat) from rfl, bn_s]
  simp only [bI_0]
  by_cases h : (en : Int) ≤ x.toInt ∧ x.toInt ≤ (512 : Nat)
  · rw [if_neg (not_not_intro h)]
    by_cases h2 : i_rem x 32 = 0
    · rw [if_pos h2, bI_t ⟨h.1, h.2, h2⟩]
    · rw [if_neg h2, bI_f (fun c => h2 c.2.2)]
  · rw [if_pos h, bI_f (fun c => h ⟨c.1, c.2.1⟩)]
theorem l_rszA {m k : Nat} {pm : Int32} {st ln mem : Nat → Int32} {s l : Nat → Nat} {K : Int32 → Option (Int32 × Int32 × Int32 × (Nat → Int32))} (hm : m ≤ 512) (hk : k ≤ 8) (hs : ∀ i, i < k → st i = nI (s i) ∧ ln i = nI (l i) ∧ s i + l i ≤ 512) : ∀ (c fuel i : Nat), i + c = k → c < fuel → ((∀ j, i ≤ j → j < k → s j + l j ≤ m) → L_X8_resize_18 (nI m) pm (nI k) st ln mem K fuel (nI i) = K (nI k)) ∧ ((∃ j, i ≤ j ∧ j < k ∧ m < s j + l j) → L_X8_resize_18 (nI m) pm (nI k) st ln mem K fuel (nI i) = some (-3, 0, pm, mem)) := by
  intro c
  induction c with
  | zero =>
    intro fuel i h1 h2
    obtain ⟨f, rfl⟩ : ∃ f, fuel = f + 1 := ⟨fuel - 1, by omega⟩
    refine ⟨fun _ => ?_, fun ⟨j, h3, h4, _⟩ => absurd h3 (by omega)⟩
    show B_X8_resize_18 _ _ _ _ _ _ _ _ _ = _
    unfold B_X8_resize_18
    rw [if_pos (by rw [nI_leI (by omega) (by omega)]; omega), show i = k by omega]
  | succ c ih =>
    intro fuel i h1 h2
    obtain ⟨f, rfl⟩ : ∃ f, fuel = f + 1 := ⟨fuel - 1, by omega⟩
    obtain ⟨e1, e2, e3⟩ := hs i (by omega)
    have st : L_X8_resize_18 (nI m) pm (nI k) st ln mem K (f + 1) (nI i) = if s i + l i ≤ m then L_X8_resize_18 (nI m) pm (nI k) st ln mem K f (nI (i + 1)) else some (-3, 0, pm, mem) := by
      show B_X8_resize_18 _ _ _ _ _ _ _ _ _ = _
      unfold B_X8_resize_18
      simp (disch := omega) only [nI_leI, gin_n, nI_clamp, e1, e2, nI_add, bn_s, nI_inc]
      rw [if_neg (by omega)]
    rw [st]
    constructor
    · intro h
      rw [if_pos (h i (Nat.le_refl _) (by omega))]
      exact (ih f (i + 1) (by omega) (by omega)).1 (fun j h3 h4 => h j (by omega) h4)
    · intro ⟨j, h3, h4, h5⟩
      by_cases h6 : s i + l i ≤ m
      · rw [if_pos h6]
        refine (ih f (i + 1) (by omega) (by omega)).2 ⟨j, ?_, h4, h5⟩
        rcases Nat.lt_or_ge i j with h7 | h7
        · omega
        · have : i = j := by omega
          subst this
          omega
      · rw [if_neg h6]
/-- the memory behind a change of the size -/
def rsz (z m : Nat) (mem : Nat → Int32) : Nat → Int32 := if z ≤ m then filo 0 z m (fun _ => 0) mem else mem
theorem l_rszB {z m : Nat} {mem : Nat → Int32} {K : (Nat → Int32) → Int32 → Option (Int32 × Int32 × Int32 × (Nat → Int32))} (hz : z ≤ 512) (hm : m ≤ 512) {N : Nat} (hN : 5000 ≤ N) : ∃ x, L_X8_resize_59 (nI m) K N mem (nI z) = K (rsz z m mem) x := by
  unfold rsz
  by_cases h : z ≤ m
  · rw [if_pos h]
    refine ⟨nI m, ?_⟩
    refine loop1 (L := L_X8_resize_59 (nI m) K) (K := K) 0 m (fun _ => 0) (fun _ _ => True) ?_ ?_ (fun _ _ _ _ => trivial) (m - z) N z mem trivial (by omega) (by omega)
    · intro f y
      show B_X8_resize_59 _ _ _ _ _ = _
      unfold B_X8_resize_59
      rw [if_pos (by rw [nI_leI (by omega) (by omega)]; omega)]
    · intro f y i hp hi
      show B_X8_resize_59 _ _ _ _ _ = _
      unfold B_X8_resize_59
      rw [Nat.zero_add]
      simp (disch := omega) only [nI_leI, gin_n, nI_clamp, bn_s, nI_inc]
      rw [if_neg (by omega)]
  · rw [if_neg h]
    refine ⟨nI z, ?_⟩
    obtain ⟨f, rfl⟩ : ∃ f, N = f + 1 := ⟨N - 1, by omega⟩
    show B_X8_resize_59 _ _ _ _ _ = _
    unfold B_X8_resize_59
    rw [if_pos (by rw [nI_leI (by omega) (by omega)]; omega)]
theorem l_chg {z m : Nat} {mem : Nat → Int32} {K : (Nat → Int32) → Int32 → Option ((Nat → Int32) × Int32)} (hz : z ≤ 512) (hm : m ≤ 512) {N : Nat} (hN : 5000 ≤ N) : ∃ x, L_X1_changeSize_5 (nI m) K N mem (nI z) = K (rsz z m mem) x := by
  unfold rsz
  by_cases h : z ≤ m
  · rw [if_pos h]
    refine ⟨nI m, ?_⟩
    refine loop1 (L := L_X1_changeSize_5 (nI m) K) (K := K) 0 m (fun _ => 0) (fun _ _ => True) ?_ ?_ (fun _ _ _ _ => trivial) (m - z) N z mem trivial (by omega) (by omega)
    · intro f y
      show B_X1_changeSize_5 _ _ _ _ _ = _
      unfold B_X1_changeSize_5
      rw [if_pos (by rw [nI_leI (by omega) (by omega)]; omega)]
    · intro f y i hp hi
      show B_X1_changeSize_5 _ _ _ _ _ = _
      unfold B_X1_changeSize_5
      rw [Nat.zero_add]
      simp (disch := omega) only [show (512 : Int32) = nI 512 from rfl, nI_leI, gin_n, nI_clamp, bn_s, nI_inc]
      rw [if_neg (by omega), if_neg (by omega)]
  · rw [if_neg h]
    refine ⟨nI z, ?_⟩
    obtain ⟨f, rfl⟩ : ∃ f, N = f + 1 := ⟨N - 1, by omega⟩
    show B_X1_changeSize_5 _ _ _ _ _ = _
    unfold B_X1_changeSize_5
    rw [if_pos (by rw [nI_leI (by omega) (by omega)]; omega)]
theorem rsz_ok {z m : Nat} {mem mem' : Nat → Int32} (hm : ∀ i, i < z → mem' i = mem i ∧ Byt (mem i)) : ∀ i, i < m → rsz z m mem' i = rsz z m mem i ∧ Byt (rsz z m mem i) := by
  intro i hi
  unfold rsz
  by_cases h : z ≤ m
  · rw [if_pos h, if_pos h]
    by_cases h2 : z ≤ i
    · unfold filo
      rw [if_pos (by omega), if_pos (by omega)]
      exact ⟨rfl, Byt_0⟩
    · rw [filo_out (by omega), filo_out (by omega)]
      exact hm i (by omega)
  · rw [if_neg h, if_neg h]
    exact hm i (by omega)
theorem v_blocksEnd {en z k : Nat} {st ln : Nat → Int32} {s l : Nat → Nat} (hk : k ≤ 8) (hz : z ≤ 512) (hs : ∀ i, i < k → st i = nI (s i) ∧ ln i = nI (l i)) (hB : Blk en z k s l) : ∃ e, e ≤ 512 ∧ f_X1_blocksEnd (nI k) st ln = some (nI e) ∧ (∀ i, i < k → s i + l i ≤ e) ∧ (e = 0 ∨ ∃ i, i < k ∧ e = s i + l i) := by
  unfold f_X1_blocksEnd
  by_cases h : k = 0
  · subst h
    exact ⟨0, by omega, by rw [if_pos nI_0]; rfl, fun i hi => absurd hi (by omega), Or.inl rfl⟩
  · obtain ⟨e1, e2⟩ := hs (k - 1) (by omega)
    have hb := hB (k - 1) (by omega)
    refine ⟨s (k - 1) + l (k - 1), by omega, ?_, ?_, Or.inr ⟨k - 1, by omega, rfl⟩⟩
    · simp (disch := omega) only [eq0_n, show (1 : Int32) = nI 1 from rfl, nI_sub, gin_n, nI_clamp, e1, e2, nI_add]
      rw [if_neg h]
    · intro i hi
      by_cases h2 : i = k - 1
      · rw [h2]; omega
      · have := hb.2.2.2.2 i (by omega)
        omega
theorem ok_resize {N : Nat} (hN : 5000 ≤ N) : pm_resize Rel N := by
  intro I R J S i1 ⟨ram, en, hS, hM, hF, hO, hB, hP, hL, hU⟩
  obtain ⟨z, d, k, s, l, ⟨z1, z2⟩, ed, ⟨b1, b2⟩, hz, hd, hk, hm, hst, hbl, hB2⟩ := id hM
  obtain ⟨hr, he, ⟨er, er'⟩, ⟨ee, ee'⟩, ho⟩ := id hS
  have hM' : Rel (va_up I 6 (nI z)) (va_up R 1 (R 1)) (va_up (va_up J 0 0) 4 (nI z)) (va_up S 0 (S 0)) := ⟨ram, en, hS, ⟨z, d, k, s, l, ⟨rfl, rfl⟩, ed, ⟨b1, b2⟩, hz, hd, hk, hm, hst, hbl, hB2⟩, hF, hO, hB, hP, hL, hU⟩
  have : rel2 (f_X7_resize N i1 (I 5) (I 6) (I 8) (R 3) (R 4) (R 1)) (f_X8_resize N i1 (J 3) (J 4) (J 6) (S 2) (S 3) (S 0)) (fun a b => a.1 = b.1 ∧ Rel (va_up I 6 a.2.2) (va_up R 1 a.2.1) (va_up (va_up J 0 b.2.1) 4 b.2.2.1) (va_up S 0 b.2.2.2)) := by
    unfold f_X7_resize f_X8_resize
    rw [ee, ee', z1, z2, b1, b2, v_allows i1 (by omega), v_isSize i1 (by omega), bd_s, bd_s]
    simp only [bI_0]
    by_cases h : (en : Int) ≤ i1.toInt ∧ i1.toInt ≤ (512 : Nat) ∧ i_rem i1 32 = 0
    · rw [if_neg (not_not_intro h), if_neg (not_not_intro h)]
      obtain ⟨m, m1, m2, m3, rfl⟩ := rgE h
      obtain ⟨e, he1, he2, he3, he4⟩ := v_blocksEnd hk hz.2 (fun i hi => ⟨(hbl i hi).1, (hbl i hi).2.1⟩) hB2
      rw [he2, bd_s]
      simp (disch := omega) only [nI_leI]
      have la := fun K => l_rszA (m := m) (k := k) (pm := nI z) (st := S 2) (ln := S 3) (mem := S 0) (s := s) (l := l) (K := K) m2 hk (fun i hi => ⟨(hbl i hi).2.2.1, (hbl i hi).2.2.2, by have := (hB2 i hi).2.2.2.1; omega⟩) k N 0 (by omega) (by omega)
      rw [show (0 : Int32) = nI 0 from rfl]
      by_cases h2 : e ≤ m
      · rw [if_pos h2, (la _).1 (fun j _ hj => by have := he3 j hj; omega)]
        unfold f_X1_changeSize
        obtain ⟨x1, c1⟩ := l_chg (z := z) (m := m) (mem := R 1) (K := fun z1 z2 => some (z1, nI m)) hz.2 m2 hN
        obtain ⟨x2, c2⟩ := l_rszB (z := z) (m := m) (mem := S 0) (K := fun z10 z11 => some (nI z, nI 0, nI m, z10)) hz.2 m2 hN
        rw [c1, c2]
        refine rel2_s ⟨rfl, ram, en, hS, ⟨m, d, k, s, l, ⟨rfl, rfl⟩, ed, ⟨b1, b2⟩, ⟨m1, m2⟩, hd, hk, rsz_ok hm, hst, hbl, ?_⟩, hF, hO, hB, hP, hL, hU⟩
        intro i hi
        obtain ⟨q1, q2, q3, q4, q5⟩ := hB2 i hi
        exact ⟨q1, q2, q3, by have := he3 i hi; omega, q5⟩
      · rw [if_neg h2, (la _).2 (by
          rcases he4 with h3 | ⟨i, hi, h3⟩
          · omega
          · exact ⟨i, by omega, hi, by omega⟩)]
        exact rel2_s ⟨rfl, hM'⟩
    · rw [if_pos h, if_pos h]
      exact rel2_s ⟨rfl, hM'⟩
  obtain ⟨⟨r, o0, o1⟩, ⟨r', q0, q1, q2⟩, h1, h2, rfl, h4⟩ := this
  exact ⟨_, _, _, _, _, _, h1, h2, h4⟩
