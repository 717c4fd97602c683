/-! ===== more, count, hash ===== -/
theorem v_add {n : Nat} (h : n < 1200) (v ov : Int32) (b : Nat → Int32) : f_X0_add v (nI n) ov b = some (upd b n v, nI (n + 1), ov) := by
  unfold f_X0_add
  simp (disch := omega) only [show (1200 : Int32) = nI 1200 from rfl, show (1 : Int32) = nI 1 from rfl, nI_ltI, v_setByte, nI_add, bd_s, bn_s]
  rw [if_pos h]
theorem m1_lt0 {c : Nat} (h : c < 2 ^ 31) : nI c - 1 < 0 ↔ c = 0 := by
  rw [ltI, nI_m1 h, show (0 : Int32).toInt = 0 from rfl]
  omega
theorem lk_more {Q : Int32 × (Nat → Int32) × Int32 × Int32 → Int32 × Int32 × Int32 × (Nat → Int32) → Prop} (j : Int64) (K : (Nat → Int32) → Int32 → Int32 → Int32 → Option (Int32 × (Nat → Int32) × Int32 × Int32)) (K' : Int32 → (Nat → Int32) → Int32 → Option (Int32 × Int32 × Int32 × (Nat → Int32))) (hK : ∀ n b b' ov k, n ≤ 1200 → (∀ i, i < n → b' i = b i ∧ Byt (b i)) → rel2 (K b (nI n) ov k) (K' (nI n) b' k) Q) : ∀ (c fuel fuel' n : Nat) (b b' : Nat → Int32) (ov : Int32), c ≤ 8 → c < fuel → c < fuel' → n + c ≤ 1200 → (∀ i, i < n → b' i = b i ∧ Byt (b i)) → rel2 (L_X7_more_36 j K fuel b (nI n) ov (nI c - 1)) (L_X8_more_40 j K' fuel' (nI n) b' (nI c - 1)) Q := by
  intro c
  induction c with
  | zero =>
    intro fuel fuel' n b b' ov h8 h1 h1' h2 hb
    obtain ⟨f, rfl⟩ : ∃ f, fuel = f + 1 := ⟨fuel - 1, by omega⟩
    obtain ⟨f', rfl⟩ : ∃ f, fuel' = f + 1 := ⟨fuel' - 1, by omega⟩
    show rel2 (B_X7_more_36 _ _ _ _ _ _ _) (B_X8_more_40 _ _ _ _ _ _) Q
    unfold B_X7_more_36 B_X8_more_40
    rw [if_pos (by decide), if_pos (by decide)]
    exact hK _ _ _ _ _ (by omega) hb
  | succ c ih =>
    intro fuel fuel' n b b' ov h8 h1 h1' h2 hb
    obtain ⟨f, rfl⟩ : ∃ f, fuel = f + 1 := ⟨fuel - 1, by omega⟩
    obtain ⟨f', rfl⟩ : ∃ f, fuel' = f + 1 := ⟨fuel' - 1, by omega⟩
    show rel2 (B_X7_more_36 _ _ _ _ _ _ _) (B_X8_more_40 _ _ _ _ _ _) Q
    unfold B_X7_more_36 B_X8_more_40
    have e : nI (c + 1) - 1 = nI c := nI_pred c
    have e2 : nI c + (-1) = nI c - 1 := (Int32.sub_eq_add_neg ..).symm
    rw [e, e2, lsh_k j c (by omega)]
    simp (disch := omega) only [lt0_n, ifF, v_add, gin_n, nI_clamp, bd_s, bn_s, show nI n + (1 : Int32) = nI (n + 1) from nI_1 n]
    refine ih f f' (n + 1) _ _ ov (by omega) (by omega) (by omega) (by omega) ?_
    intro i hi
    by_cases hin : i = n
    · rw [hin, upd_s, upd_s]
      exact ⟨rfl, Byt_and _⟩
    · rw [upd_n hin, upd_n hin]
      exact hb i (by omega)
theorem ok_more {N : Nat} (hN : 5000 ≤ N) : pm_more Rel N := by
  intro I R J S j1 i3 ⟨ram, en, hS, hM, hF, hO, hB, hP, hL, hU⟩
  have hM' : Rel (va_up (va_up I 13 (I 13)) 14 (I 14)) (va_up R 12 (R 12)) (va_up (va_up J 0 0) 9 (J 9)) (va_up S 4 (S 4)) := ⟨ram, en, hS, hM, hF, hO, hB, hP, hL, hU⟩
  obtain ⟨n, hn, ⟨e1, e2⟩, hb⟩ := id hB
  have : rel2 (f_X7_more N j1 i3 (I 13) (I 14) (R 12)) (f_X8_more N j1 i3 (J 9) (S 4)) (fun a b => a.1 = b.1 ∧ Rel (va_up (va_up I 13 a.2.2.1) 14 a.2.2.2) (va_up R 12 a.2.1) (va_up (va_up J 0 b.2.1) 9 b.2.2.1) (va_up S 4 b.2.2.2)) := by
    unfold f_X7_more f_X8_more
    simp only [in_n, bd_s, bn_s, bI_0, show (0 : Int64).toInt = 0 from rfl, show (8 : Int64).toInt = 8 from rfl]
    by_cases h : (0 : Nat) ≤ i3.toInt ∧ i3.toInt < (9 : Nat)
    · rw [if_neg (show ¬ ¬ (0 ≤ i3.toInt ∧ i3.toInt ≤ 8) by omega)]
      obtain ⟨c, hi1, hi2, hi3, rfl⟩ := low_hi h
      rw [e1, e2]
      simp (disch := omega) only [lt0_n, ifF, show (8 : Int32) = nI 8 from rfl, show (1200 : Int32) = nI 1200 from rfl, nI_leI, nI_add]
      rw [if_pos (show c ≤ 8 by omega)]
      by_cases h2 : n + c ≤ 1200
      · rw [if_pos h2, if_pos h2]
        refine lk_more j1 _ _ ?_ c N N n _ _ _ (by omega) (by omega) (by omega) h2 hb
        intro n2 b b' ov k hn2 hb2
        exact rel2_s ⟨rfl, ram, en, hS, hM, hF, hO, ⟨n2, hn2, ⟨rfl, rfl⟩, hb2⟩, hP, hL, hU⟩
      · rw [if_neg h2, if_neg h2]
        exact rel2_s ⟨rfl, ram, en, hS, hM, hF, hO, ⟨n, hn, ⟨rfl, rfl⟩, hb⟩, hP, hL, hU⟩
    · rw [if_pos (show ¬ (0 ≤ i3.toInt ∧ i3.toInt ≤ 8) by omega)]
      simp only [ltI, leI, show (0 : Int32).toInt = 0 from rfl, show (8 : Int32).toInt = 8 from rfl]
      by_cases h2 : i3.toInt < 0
      · rw [if_pos h2]
        exact rel2_s ⟨rfl, hM'⟩
      · rw [if_neg h2, if_neg (by omega)]
        exact rel2_s ⟨rfl, hM'⟩
  obtain ⟨⟨r, o0, o1, o2⟩, ⟨r', q0, q1, q2⟩, h1, h2, rfl, h4⟩ := this
  exact ⟨_, _, _, _, _, _, _, h1, h2, h4⟩
def sumf (f : Nat → Int32) : Nat → Nat → Int32 → Int32
  | 0, _, h => h
  | m + 1, i, h => sumf f m (i + 1) (h + f i)
theorem sumf_congr {f g : Nat → Int32} : ∀ (m i : Nat) (h : Int32), (∀ j, j < i + m → f j = g j) → sumf f m i h = sumf g m i h
  | 0, _, _, _ => rfl
  | m + 1, i, h, hh => by
    unfold sumf
    rw [hh i (by omega)]
    exact sumf_congr m (i + 1) _ (fun j hj => hh j (by omega))
theorem l_count {K : Int32 → Int32 → Option (Int32 × Int32)} {f : Nat → Int32} {o : Nat} (ho : o ≤ 4) : ∀ (m fuel i : Nat) (h : Int32), i + m = o → m < fuel → L_X8_count_9 (nI o) f K fuel h (nI i) = K (sumf f m i h) (nI o) := by
  intro m
  induction m with
  | zero =>
    intro fuel i h h1 h2
    obtain ⟨g, rfl⟩ : ∃ g, fuel = g + 1 := ⟨fuel - 1, by omega⟩
    show B_X8_count_9 _ _ _ _ _ _ = _
    unfold B_X8_count_9
    simp (disch := omega) only [nI_leI]
    rw [if_pos (by omega), show i = o by omega]
    rfl
  | succ m ih =>
    intro fuel i h h1 h2
    obtain ⟨g, rfl⟩ : ∃ g, fuel = g + 1 := ⟨fuel - 1, by omega⟩
    show B_X8_count_9 _ _ _ _ _ _ = _
    unfold B_X8_count_9
    simp (disch := omega) only [nI_leI, gin_n, nI_clamp, bn_s, nI_inc]
    rw [if_neg (by omega), ih g (i + 1) _ (by omega) (by omega)]
    rfl
theorem l_bytesInAll {K : Int32 → Int32 → Option Int32} {f : Nat → Int32} {o : Nat} (ho : o ≤ 4) : ∀ (m fuel i : Nat) (h : Int32), i + m = o → m < fuel → L_X2_bytesInAll_4 (nI o) f K fuel h (nI i) = K (sumf f m i h) (nI o) := by
  intro m
  induction m with
  | zero =>
    intro fuel i h h1 h2
    obtain ⟨g, rfl⟩ : ∃ g, fuel = g + 1 := ⟨fuel - 1, by omega⟩
    show B_X2_bytesInAll_4 _ _ _ _ _ _ = _
    unfold B_X2_bytesInAll_4
    simp (disch := omega) only [nI_leI]
    rw [if_pos (by omega), show i = o by omega]
    rfl
  | succ m ih =>
    intro fuel i h h1 h2
    obtain ⟨g, rfl⟩ : ∃ g, fuel = g + 1 := ⟨fuel - 1, by omega⟩
    show B_X2_bytesInAll_4 _ _ _ _ _ _ = _
    unfold B_X2_bytesInAll_4
    simp (disch := omega) only [nI_leI, gin_n, nI_clamp, bn_s, nI_inc]
    rw [if_neg (by omega), ih g (i + 1) _ (by omega) (by omega)]
    rfl
theorem ok_count {N : Nat} (hN : 5000 ≤ N) : pm_count Rel N := by
  intro I R J S i1 ⟨ram, en, hS, hM, hF, hO, hB, hP, hL, hU⟩
  have hM' : Rel I R (va_up J 0 0) S := ⟨ram, en, hS, hM, hF, hO, hB, hP, hL, hU⟩
  obtain ⟨z, d, k, s, l, ⟨z1, z2⟩, ⟨d1, d2⟩, ⟨b1, b2⟩, _⟩ := id hM
  obtain ⟨n, hn, ⟨f1, f2⟩, hb⟩ := id hB
  obtain ⟨u, hu, ⟨u1, u2⟩, _⟩ := id hU
  obtain ⟨o, ln, ho, ⟨o1, o2⟩, hoo⟩ := id hO
  have : rel2 (f_X7_count N i1 (I 6) (I 7) (I 8) (I 13) (I 17) (I 12) (R 10)) (f_X8_count N i1 (J 4) (J 5) (J 6) (J 9) (J 10) (J 14) (S 6)) (fun a b => a = b.1 ∧ Rel I R (va_up J 0 b.2) S) := by
    unfold f_X7_count f_X8_count f_X2_bytesInAll
    rw [o1, o2, z1, z2, d1, d2, b1, b2, f1, f2, u1, u2, show L_X8_count_9 (nI o) (S 6) _ N 0 0 = _ from l_count ho o N 0 0 (by omega) (by omega), show L_X2_bytesInAll_4 (nI o) (R 10) _ N 0 0 = _ from l_bytesInAll ho o N 0 0 (by omega) (by omega), sumf_congr (f := S 6) (g := R 10) o 0 0 (fun j hj => by rw [(hoo j (by omega)).2.2.1, (hoo j (by omega)).2.2.2.1])]
    by_cases h0 : i1 = 0
    · rw [if_pos h0, if_pos h0]; exact rel2_s ⟨rfl, hM'⟩
    rw [if_neg h0, if_neg h0]
    by_cases h0 : i1 = 1
    · rw [if_pos h0, if_pos h0]; exact rel2_s ⟨rfl, hM'⟩
    rw [if_neg h0, if_neg h0]
    by_cases h0 : i1 = 2
    · rw [if_pos h0, if_pos h0]; exact rel2_s ⟨rfl, hM'⟩
    rw [if_neg h0, if_neg h0]
    by_cases h0 : i1 = 3
    · rw [if_pos h0, if_pos h0]; exact rel2_s ⟨rfl, hM'⟩
    rw [if_neg h0, if_neg h0]
    by_cases h0 : i1 = 4
    · rw [if_pos h0, if_pos h0]; exact rel2_s ⟨rfl, hM'⟩
    rw [if_neg h0, if_neg h0]
    by_cases h0 : i1 = 5
    · rw [if_pos h0, if_pos h0]; exact rel2_s ⟨rfl, hM'⟩
    rw [if_neg h0, if_neg h0]
    by_cases h0 : i1 = 6
    · rw [if_pos h0, if_pos h0]; exact rel2_s ⟨rfl, hM'⟩
    rw [if_neg h0, if_neg h0]
    exact rel2_s ⟨rfl, hM'⟩
  obtain ⟨r, ⟨r', q0⟩, h1, h2, rfl, h4⟩ := this
  exact ⟨_, _, h1, h2, h4⟩
