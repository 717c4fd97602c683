/-! ===== the calls without loops ===== -/
theorem nI_m1 {n : Nat} (h : n < 2 ^ 31) : (nI n - 1).toInt = (n : Int) - 1 := by
  rw [subI (by rw [nI_toInt h, show (1 : Int32).toInt = 1 from rfl]; omega), nI_toInt h, show (1 : Int32).toInt = 1 from rfl]
theorem ok_peek (N : Nat) : pm_peek Rel N := by
  intro I R J S i1 ⟨ram, en, hS, hM, hF, hO, hB, hP, hL, hU⟩
  obtain ⟨z, d, k, s, l, ⟨e1, e2⟩, ed, eb, hz, hd, hk, hm, hst, hbl, hB2⟩ := id hM
  have hz1 : (nI z).toInt = z := nI_toInt (by omega)
  have v1 := v_X7_peek i1 (I 6) (R 1) (by rw [e1]; omega)
  have v2 := v_X8_peek i1 (J 4) (S 0) (by rw [e2]; omega) (by rw [e2]; omega)
  rw [e2, hz1] at v2
  rw [e1, hz1] at v1
  by_cases h : 0 ≤ i1.toInt ∧ i1.toInt < z
  · rw [if_pos h] at v1 v2
    have hc : i1.toNatClampNeg < z := by rw [clI]; omega
    rw [(hm _ hc).1] at v2
    rw [← e1] at v1
    rw [← e2] at v2
    exact ⟨_, _, v1, v2, ram, en, hS, hM, hF, hO, hB, hP, hL, hU⟩
  · rw [if_neg h] at v1 v2
    rw [← e1] at v1
    rw [← e2] at v2
    exact ⟨_, _, v1, v2, ram, en, hS, hM, hF, hO, hB, hP, hL, hU⟩
theorem ok_poke (N : Nat) : pm_poke Rel N := by
  intro I R J S i1 i2 ⟨ram, en, hS, hM, hF, hO, hB, hP, hL, hU⟩
  obtain ⟨z, d, k, s, l, ⟨e1, e2⟩, ed, eb, hz, hd, hk, hm, hst, hbl, hB2⟩ := id hM
  obtain ⟨hr, he, ⟨er, er'⟩, _⟩ := id hS
  have hM' : Rel I (va_up R 1 (R 1)) (va_up J 0 0) (va_up S 0 (S 0)) := ⟨ram, en, hS, hM, hF, hO, hB, hP, hL, hU⟩
  have : rel2 (f_X7_poke i1 i2 (I 4) (I 6) (R 1)) (f_X8_poke i1 i2 (J 2) (J 4) (S 0)) (fun a b => a.1 = b.1 ∧ Rel I (va_up R 1 a.2) (va_up J 0 b.2.1) (va_up S 0 b.2.2)) := by
    unfold f_X7_poke f_X8_poke
    rw [er, e1, er', e2]
    simp only [in_n, bd_s, bn_s, bI_0, v_isByte, tiL, ltI, show (0 : Int64).toInt = 0 from rfl, show (255 : Int64).toInt = 255 from rfl, nI_toInt (show ram < 2 ^ 31 by omega), nI_m1 (show z < 2 ^ 31 by omega), nI_toInt (show z < 2 ^ 31 by omega)]
    by_cases h : (ram : Int) ≤ i1.toInt ∧ i1.toInt < z
    · rw [if_neg (show ¬ i1.toInt < ram by omega), if_pos (show i1.toInt < z by omega), if_neg (show ¬ ¬ ((ram : Int) ≤ i1.toInt ∧ i1.toInt ≤ (z : Int) - 1) by omega)]
      by_cases h2 : 0 ≤ i2.toInt ∧ i2.toInt ≤ 255
      · rw [if_neg (by omega), if_neg (by omega)]
        obtain ⟨n, hn1, hn2, hn3, rfl⟩ := low_hi h
        simp (disch := omega) only [gin_n, nI_clamp]
        refine rel2_s ⟨(hm n hn2).1.symm, ram, en, hS, ⟨z, d, k, s, l, ⟨e1, e2⟩, ed, eb, hz, hd, hk, ?_, hst, hbl, hB2⟩, hF, hO, hB, hP, hL, hU⟩
        intro i hi
        show upd (S 0) n i2 i = upd (R 1) n i2 i ∧ Byt (upd (R 1) n i2 i)
        by_cases hin : i = n
        · rw [hin, upd_s, upd_s]
          exact ⟨rfl, Byt_r h2.1 h2.2⟩
        · rw [upd_n hin, upd_n hin]
          exact hm i hi
      · rw [if_pos (by omega), if_pos (by omega)]
        exact rel2_s ⟨rfl, hM'⟩
    · rw [if_pos (show ¬ ((ram : Int) ≤ i1.toInt ∧ i1.toInt ≤ (z : Int) - 1) by omega)]
      by_cases h2 : i1.toInt < ram
      · rw [if_pos h2]
        exact rel2_s ⟨rfl, hM'⟩
      · rw [if_neg h2, if_neg (by omega)]
        exact rel2_s ⟨rfl, hM'⟩
  obtain ⟨⟨r, o0⟩, ⟨r', q0, q1⟩, h1, h2, rfl, h4⟩ := this
  exact ⟨_, _, _, _, h1, h2, h4⟩
theorem ok_push (N : Nat) : pm_push Rel N := by
  intro I R J S i1 ⟨ram, en, hS, hM, hF, hO, hB, hP, hL, hU⟩
  obtain ⟨z, d, k, s, l, ez, ⟨e1, e2⟩, eb, hz, hd, hk, hm, hst, hbl, hB2⟩ := id hM
  have : rel2 (f_X7_push i1 (I 7) (R 2)) (f_X8_push i1 (J 5) (S 1)) (fun a b => a.1 = b.1 ∧ Rel (va_up I 7 a.2.2) (va_up R 2 a.2.1) (va_up (va_up J 0 b.2.1) 5 b.2.2.1) (va_up S 1 b.2.2.2)) := by
    unfold f_X7_push f_X8_push f_X1_addInt
    rw [e1, e2]
    simp (disch := omega) only [show (40 : Int32) = nI 40 from rfl, show (1 : Int32) = nI 1 from rfl, nI_ltI, nI_eq, nI_clamp, nI_add]
    by_cases h : d < 40
    · rw [if_pos h, if_neg (by omega)]
      simp (disch := omega) only [gin_n, bd_s, bn_s, eq0_n, show ¬ (1 = 0) from by decide, if_false]
      refine rel2_s ⟨rfl, ram, en, hS, ⟨z, d + 1, k, s, l, ez, ⟨rfl, rfl⟩, eb, hz, by omega, hk, hm, ?_, hbl, hB2⟩, hF, hO, hB, hP, hL, hU⟩
      intro i hi
      show upd (S 1) d i1 i = upd (R 2) d i1 i
      by_cases hin : i = d
      · rw [hin, upd_s, upd_s]
      · rw [upd_n hin, upd_n hin]
        exact hst i (by omega)
    · rw [if_neg h, if_pos (by omega)]
      simp only [bd_s, i0_0, ifT]
      refine rel2_s ⟨rfl, ram, en, hS, ⟨z, d, k, s, l, ez, ⟨rfl, rfl⟩, eb, hz, by omega, hk, hm, hst, hbl, hB2⟩, hF, hO, hB, hP, hL, hU⟩
  obtain ⟨⟨r, o0, o1⟩, ⟨r', q0, q1, q2⟩, h1, h2, rfl, h4⟩ := this
  exact ⟨_, _, _, _, _, _, h1, h2, h4⟩
theorem ok_pop (N : Nat) : pm_pop Rel N := by
  intro I R J S ⟨ram, en, hS, hM, hF, hO, hB, hP, hL, hU⟩
  obtain ⟨z, d, k, s, l, ez, ⟨e1, e2⟩, eb, hz, hd, hk, hm, hst, hbl, hB2⟩ := id hM
  by_cases h : d = 0
  · right
    have hM' : Rel I R (va_up (va_up J 0 1) 5 (nI d)) S := ⟨ram, en, hS, ⟨z, d, k, s, l, ez, ⟨e1, rfl⟩, eb, hz, hd, hk, hm, hst, hbl, hB2⟩, hF, hO, hB, hP, hL, hU⟩
    have hf : f_X8_pop (J 5) (S 1) = some (0, 1, nI d) := by
      unfold f_X8_pop
      rw [e2, if_pos (by rw [h]; exact nI_0)]
    exact ⟨by rw [e1, h, nI_0]; decide, _, _, _, hf, rfl, hM'⟩
  · left
    have hf : f_X8_pop (J 5) (S 1) = some (S 1 (d - 1), 0, nI (d - 1)) := by
      unfold f_X8_pop
      rw [e2]
      simp (disch := omega) only [eq0_n, show (1 : Int32) = nI 1 from rfl, nI_sub, bn_s, gin_n, nI_clamp]
      rw [if_neg h]
    have hg : f_X7_pop (I 7) (R 2) = some (R 2 (d - 1), nI (d - 1)) := by
      unfold f_X7_pop f_X1_takeInt
      rw [e1]
      simp (disch := omega) only [gt0_n, show (1 : Int32) = nI 1 from rfl, nI_sub, bn_s, gin_n, nI_clamp]
      rw [if_pos (by omega), if_pos (by omega)]
      rfl
    rw [hst (d - 1) (by omega)] at hf
    refine ⟨_, _, _, _, hg, hf, rfl, ram, en, hS, ⟨z, d - 1, k, s, l, ez, ⟨rfl, rfl⟩, eb, hz, by omega, hk, hm, fun i hi => hst i (by omega), hbl, hB2⟩, hF, hO, hB, hP, hL, hU⟩
theorem ok_protect (N : Nat) : pm_protect Rel N := by
  intro I R J S i1 i2 ⟨ram, en, hS, hM, hF, hO, hB, hP, hL, hU⟩
  have hM' : Rel (va_up (va_up I 0 (I 0)) 1 (I 1)) R (va_up (va_up (va_up J 0 0) 7 (J 7)) 8 (J 8)) S := ⟨ram, en, hS, hM, hF, hO, hB, hP, hL, hU⟩
  have : rel2 (f_X7_protect i1 i2 (I 0) (I 1)) (f_X8_protect i1 i2 (J 7) (J 8)) (fun a b => a.1 = b.1 ∧ Rel (va_up (va_up I 0 a.2.1) 1 a.2.2) R (va_up (va_up (va_up J 0 b.2.1) 7 b.2.2.1) 8 b.2.2.2) S) := by
    unfold f_X7_protect f_X8_protect
    simp only [in_n, bd_s, bn_s, bI_0, ltI, leI, show (0 : Int64).toInt = 0 from rfl, show (511 : Int64).toInt = 511 from rfl, show (512 : Int64).toInt = 512 from rfl, show (0 : Int32).toInt = 0 from rfl, show (512 : Int32).toInt = 512 from rfl]
    by_cases h1 : 0 ≤ i1.toInt ∧ i1.toInt < (512 : Nat)
    · rw [if_neg (show ¬ i1.toInt < 0 by omega), if_neg (show ¬ 512 ≤ i1.toInt by omega), if_neg (show ¬ ¬ (0 ≤ i1.toInt ∧ i1.toInt ≤ 511) by omega)]
      by_cases h2 : 0 ≤ i2.toInt ∧ i2.toInt < (513 : Nat)
      · rw [if_neg (show ¬ i2.toInt < 0 by omega), if_pos (show i2.toInt ≤ 512 by omega), if_neg (show ¬ ¬ (0 ≤ i2.toInt ∧ i2.toInt ≤ 512) by omega)]
        obtain ⟨g, hg1, hg2, hg3, rfl⟩ := low_hi (a := 0) h1
        obtain ⟨h, hh1, hh2, hh3, rfl⟩ := low_hi (a := 0) h2
        rw [nI_add]
        exact rel2_s ⟨rfl, ram, en, hS, hM, hF, hO, hB, ⟨g, h, by omega, by omega, ⟨rfl, rfl⟩, ⟨rfl, rfl⟩⟩, hL, hU⟩
      · rw [if_pos (show ¬ (0 ≤ i2.toInt ∧ i2.toInt ≤ 512) by omega)]
        by_cases h3 : i2.toInt < 0
        · rw [if_pos h3]
          exact rel2_s ⟨rfl, hM'⟩
        · rw [if_neg h3, if_neg (by omega)]
          exact rel2_s ⟨rfl, hM'⟩
    · rw [if_pos (show ¬ (0 ≤ i1.toInt ∧ i1.toInt ≤ 511) by omega)]
      by_cases h3 : i1.toInt < 0
      · rw [if_pos h3]
        exact rel2_s ⟨rfl, hM'⟩
      · rw [if_neg h3, if_pos (by omega)]
        exact rel2_s ⟨rfl, hM'⟩
  obtain ⟨⟨r, o0, o1⟩, ⟨r', q0, q1, q2⟩, h1, h2, rfl, h4⟩ := this
  exact ⟨_, _, _, _, _, _, h1, h2, h4⟩
theorem ok_fault (N : Nat) : pm_fault Rel N := by
  intro I R J S i1 ⟨ram, en, hS, hM, hF, hO, hB, hP, hL, hU⟩
  have hM' : Rel I R (va_up J 0 0) S := ⟨ram, en, hS, hM, hF, hO, hB, hP, hL, hU⟩
  have : rel2 (f_X7_fault i1 (I 2) (I 3)) (f_X8_fault i1 (J 11) (J 12) (J 13)) (fun a b => a = b.1 ∧ Rel I R (va_up J 0 b.2) S) := by
    unfold f_X7_fault f_X8_fault J_X7_fault_12
    simp only [in_n, bd_s, bn_s, bI_0, show (0 : Int64).toInt = 0 from rfl, show (1 : Int64).toInt = 1 from rfl]
    by_cases h0 : i1 = 0
    · subst h0
      rw [if_pos rfl, if_neg (show ¬ ¬ (0 ≤ Int32.toInt 0 ∧ Int32.toInt 0 ≤ 1) by decide)]
      rcases hL with ⟨l1, l2⟩ | ⟨l1, l2, l3, l4⟩
      · rw [if_pos l1, if_pos l2]
        exact rel2_s ⟨rfl, hM'⟩
      · rw [if_neg l1, if_neg (show ¬ J 11 = 0 by rw [l2]; decide), if_pos rfl, if_pos rfl]
        exact rel2_s ⟨l3.symm, hM'⟩
    · rw [if_neg h0]
      by_cases h1 : i1 = 1
      · subst h1
        rw [if_pos rfl, if_neg (show ¬ ¬ (0 ≤ Int32.toInt 1 ∧ Int32.toInt 1 ≤ 1) by decide)]
        rcases hL with ⟨l1, l2⟩ | ⟨l1, l2, l3, l4⟩
        · rw [if_pos l1, if_pos l2]
          exact rel2_s ⟨rfl, hM'⟩
        · rw [if_neg l1, if_neg (show ¬ J 11 = 0 by rw [l2]; decide), if_neg (show ¬ (1 : Int32) = 0 by decide), if_neg (show ¬ (1 : Int32) = 0 by decide)]
          exact rel2_s ⟨l4.symm, hM'⟩
      · rw [eqI, show (0 : Int32).toInt = 0 from rfl] at h0
        have h1' := h1
        rw [eqI, show (1 : Int32).toInt = 1 from rfl] at h1'
        rw [if_neg h1, if_pos (by omega)]
        exact rel2_s ⟨rfl, hM'⟩
  obtain ⟨r, ⟨r', q0⟩, h1, h2, rfl, h4⟩ := this
  exact ⟨_, _, h1, h2, h4⟩
