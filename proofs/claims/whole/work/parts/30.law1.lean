/-- the law's world -/
abbrev LW (E : ClassId × ClassId × ClassId) (a : Nat → Nat) (I : Nat → Int32) (R : Nat → Nat → Int32) (b : Nat → Nat) (J : Nat → Int32) (S : Nat → Nat → Int32) (ho : Nat) (f : Nat → Int64) : va_W := XW E a I R ++ (MW E b J S ++ [(ho, .inl (E.2.2, 1, .inr (.inl f)))])
/-- what stays while the law runs -/
def LX (p : Program) (s : State) (m : MethodId) (c : Code) (G : va_G) (E : ClassId × ClassId × ClassId) (b0 L : Nat) (xs : Nat → Int32) : Prop := p.tables.exec = Jvm.exec ∧ c.code = code ∧ c.maxLocals = 7 ∧ s.vm.findClass RL = some m.cls ∧ (∀ w ∈ GT, w.before #[Value.ref b0] s = true) ∧ KK G E s ∧ va_X b0 L xs s s.heap ∧ b0 < s.heap.size
theorem ix_in {i L : Nat} (d : Nat) (hd : d ≤ 3) (hi : i + 3 < L) (hL : L ≤ 2051) : vp_in (nI i + nI d) L ∧ (nI i + nI d).toNatClampNeg = i + d := by
  rw [nI_add]
  exact ⟨vp_in_nI (by omega) (by omega), nI_clamp (by omega)⟩
def pm_peek (Rl : (Nat → Int32) → (Nat → Nat → Int32) → (Nat → Int32) → (Nat → Nat → Int32) → Prop) (N : Nat) : Prop := ∀ (I : Nat → Int32) (R : Nat → Nat → Int32) (J : Nat → Int32) (S : Nat → Nat → Int32) (i1 : Int32), Rl I R J S → ∃ (r : Int32) (q0 : Int32), f_X7_peek i1 (I 6) (R 1) = some (r) ∧ f_X8_peek i1 (J 4) (S 0) = some (r, q0) ∧ Rl I R (va_up J 0 q0) S
def pm_poke (Rl : (Nat → Int32) → (Nat → Nat → Int32) → (Nat → Int32) → (Nat → Nat → Int32) → Prop) (N : Nat) : Prop := ∀ (I : Nat → Int32) (R : Nat → Nat → Int32) (J : Nat → Int32) (S : Nat → Nat → Int32) (i1 : Int32) (i2 : Int32), Rl I R J S → ∃ (r : Int32) (o0 : (Nat → Int32)) (q0 : Int32) (q1 : (Nat → Int32)), f_X7_poke i1 i2 (I 4) (I 6) (R 1) = some (r, o0) ∧ f_X8_poke i1 i2 (J 2) (J 4) (S 0) = some (r, q0, q1) ∧ Rl I (va_up R 1 o0) (va_up J 0 q0) (va_up S 0 q1)
def pm_resize (Rl : (Nat → Int32) → (Nat → Nat → Int32) → (Nat → Int32) → (Nat → Nat → Int32) → Prop) (N : Nat) : Prop := ∀ (I : Nat → Int32) (R : Nat → Nat → Int32) (J : Nat → Int32) (S : Nat → Nat → Int32) (i1 : Int32), Rl I R J S → ∃ (r : Int32) (o0 : (Nat → Int32)) (o1 : Int32) (q0 : Int32) (q1 : Int32) (q2 : (Nat → Int32)), f_X7_resize N i1 (I 5) (I 6) (I 8) (R 3) (R 4) (R 1) = some (r, o0, o1) ∧ f_X8_resize N i1 (J 3) (J 4) (J 6) (S 2) (S 3) (S 0) = some (r, q0, q1, q2) ∧ Rl (va_up I 6 o1) (va_up R 1 o0) (va_up (va_up J 0 q0) 4 q1) (va_up S 0 q2)
def pm_push (Rl : (Nat → Int32) → (Nat → Nat → Int32) → (Nat → Int32) → (Nat → Nat → Int32) → Prop) (N : Nat) : Prop := ∀ (I : Nat → Int32) (R : Nat → Nat → Int32) (J : Nat → Int32) (S : Nat → Nat → Int32) (i1 : Int32), Rl I R J S → ∃ (r : Int32) (o0 : (Nat → Int32)) (o1 : Int32) (q0 : Int32) (q1 : Int32) (q2 : (Nat → Int32)), f_X7_push i1 (I 7) (R 2) = some (r, o0, o1) ∧ f_X8_push i1 (J 5) (S 1) = some (r, q0, q1, q2) ∧ Rl (va_up I 7 o1) (va_up R 2 o0) (va_up (va_up J 0 q0) 5 q1) (va_up S 1 q2)
def pm_pop (Rl : (Nat → Int32) → (Nat → Nat → Int32) → (Nat → Int32) → (Nat → Nat → Int32) → Prop) (N : Nat) : Prop := ∀ (I : Nat → Int32) (R : Nat → Nat → Int32) (J : Nat → Int32) (S : Nat → Nat → Int32) , Rl I R J S → (∃ (r : Int32) (o0 : Int32) (q0 : Int32) (q1 : Int32), f_X7_pop (I 7) (R 2) = some (r, o0) ∧ f_X8_pop (J 5) (S 1) = some (r, q0, q1) ∧ (va_up (va_up J 0 q0) 5 q1) 0 = 0 ∧ Rl (va_up I 7 o0) R (va_up (va_up J 0 q0) 5 q1) S) ∨ (¬ 0 < I 7 ∧ ∃ (r : Int32) (q0 : Int32) (q1 : Int32), f_X8_pop (J 5) (S 1) = some (r, q0, q1) ∧ (va_up (va_up J 0 q0) 5 q1) 0 = 1 ∧ Rl I R (va_up (va_up J 0 q0) 5 q1) S)
def pm_block (Rl : (Nat → Int32) → (Nat → Nat → Int32) → (Nat → Int32) → (Nat → Nat → Int32) → Prop) (N : Nat) : Prop := ∀ (I : Nat → Int32) (R : Nat → Nat → Int32) (J : Nat → Int32) (S : Nat → Nat → Int32) (i1 : Int32) (i2 : Int32), Rl I R J S → ∃ (r : Int32) (o0 : (Nat → Int32)) (o1 : (Nat → Int32)) (o2 : Int32) (q0 : Int32) (q1 : Int32) (q2 : (Nat → Int32)) (q3 : (Nat → Int32)), f_X7_block N i1 i2 (I 5) (I 6) (I 8) (R 3) (R 4) = some (r, o0, o1, o2) ∧ f_X8_block N i1 i2 (J 3) (J 4) (J 6) (S 2) (S 3) = some (r, q0, q1, q2, q3) ∧ Rl (va_up I 8 o2) (va_up (va_up R 3 o0) 4 o1) (va_up (va_up J 0 q0) 6 q1) (va_up (va_up S 2 q2) 3 q3)
def pm_free (Rl : (Nat → Int32) → (Nat → Nat → Int32) → (Nat → Int32) → (Nat → Nat → Int32) → Prop) (N : Nat) : Prop := ∀ (I : Nat → Int32) (R : Nat → Nat → Int32) (J : Nat → Int32) (S : Nat → Nat → Int32) (i1 : Int32), Rl I R J S → ∃ (r : Int32) (o0 : (Nat → Int32)) (o1 : (Nat → Int32)) (o2 : Int32) (q0 : Int32) (q1 : Int32) (q2 : (Nat → Int32)) (q3 : (Nat → Int32)), f_X7_free N i1 (I 8) (R 3) (R 4) = some (r, o0, o1, o2) ∧ f_X8_free N i1 (J 6) (S 2) (S 3) = some (r, q0, q1, q2, q3) ∧ Rl (va_up I 8 o2) (va_up (va_up R 3 o0) 4 o1) (va_up (va_up J 0 q0) 6 q1) (va_up (va_up S 2 q2) 3 q3)
def pm_protect (Rl : (Nat → Int32) → (Nat → Nat → Int32) → (Nat → Int32) → (Nat → Nat → Int32) → Prop) (N : Nat) : Prop := ∀ (I : Nat → Int32) (R : Nat → Nat → Int32) (J : Nat → Int32) (S : Nat → Nat → Int32) (i1 : Int32) (i2 : Int32), Rl I R J S → ∃ (r : Int32) (o0 : Int32) (o1 : Int32) (q0 : Int32) (q1 : Int32) (q2 : Int32), f_X7_protect i1 i2 (I 0) (I 1) = some (r, o0, o1) ∧ f_X8_protect i1 i2 (J 7) (J 8) = some (r, q0, q1, q2) ∧ Rl (va_up (va_up I 0 o0) 1 o1) R (va_up (va_up (va_up J 0 q0) 7 q1) 8 q2) S
def pm_save (Rl : (Nat → Int32) → (Nat → Nat → Int32) → (Nat → Int32) → (Nat → Nat → Int32) → Prop) (N : Nat) : Prop := ∀ (I : Nat → Int32) (R : Nat → Nat → Int32) (J : Nat → Int32) (S : Nat → Nat → Int32) , Rl I R J S → ∃ (r : Int32) (o0 : (Nat → Int32)) (o1 : Int32) (o2 : Int32) (o3 : (Nat → Int32)) (o4 : Int32) (q0 : Int32) (q1 : Int32) (q2 : (Nat → Int32)) (q3 : Int32) (q4 : (Nat → Int32)), f_X7_save N (R 13) (I 4) (R 0) (I 6) (I 7) (I 8) (R 1) (R 2) (R 3) (I 12) (R 9) (R 10) (R 11) (R 4) (I 13) (R 12) = some (r, o0, o1, o2, o3, o4) ∧ f_X8_save N (J 1) (J 2) (J 3) (J 4) (J 5) (J 6) (J 9) (J 10) (S 15) (S 0) (S 1) (S 2) (S 5) (S 6) (S 7) (S 4) (S 3) = some (r, q0, q1, q2, q3, q4) ∧ Rl (va_up (va_up (va_up I 15 o1) 16 o2) 13 o4) (va_up (va_up R 13 o0) 12 o3) (va_up (va_up (va_up J 0 q0) 9 q1) 15 q3) (va_up (va_up S 4 q2) 15 q4)
def pm_load (Rl : (Nat → Int32) → (Nat → Nat → Int32) → (Nat → Int32) → (Nat → Nat → Int32) → Prop) (N : Nat) : Prop := ∀ (I : Nat → Int32) (R : Nat → Nat → Int32) (J : Nat → Int32) (S : Nat → Nat → Int32) , Rl I R J S → ∃ (r : Int32) (o0 : Int32) (o1 : Int32) (o2 : (Nat → Int32)) (o3 : Int32) (o4 : (Nat → Int32)) (o5 : Int32) (o6 : (Nat → Int32)) (o7 : (Nat → Int32)) (o8 : Int32) (o9 : Int32) (o10 : (Nat → Int32)) (o11 : (Nat → Int32)) (o12 : (Nat → Int32)) (o13 : Int32) (o14 : Int32) (o15 : Int32) (o16 : Int32) (o17 : Int32) (o18 : Int32) (o19 : Int32) (o20 : (Nat → Int32)) (o21 : Int32) (o22 : (Nat → Int32)) (o23 : Int32) (o24 : (Nat → Int32)) (o25 : (Nat → Int32)) (o26 : Int32) (o27 : Int32) (o28 : (Nat → Int32)) (o29 : (Nat → Int32)) (o30 : (Nat → Int32)) (q0 : Int32) (q1 : Int32) (q2 : (Nat → Int32)) (q3 : Int32) (q4 : (Nat → Int32)) (q5 : Int32) (q6 : (Nat → Int32)) (q7 : (Nat → Int32)) (q8 : Int32) (q9 : (Nat → Int32)) (q10 : (Nat → Int32)) (q11 : (Nat → Int32)) (q12 : Int32) (q13 : Int32) (q14 : Int32) (q15 : Int32) (q16 : Int32) (q17 : (Nat → Int32)) (q18 : Int32) (q19 : (Nat → Int32)) (q20 : Int32) (q21 : (Nat → Int32)) (q22 : (Nat → Int32)) (q23 : Int32) (q24 : (Nat → Int32)) (q25 : (Nat → Int32)) (q26 : (Nat → Int32)) (q27 : Int32) (q28 : Int32) (q29 : Int32), f_X7_load N (I 0) (I 1) (I 2) (I 3) (I 4) (I 5) (R 0) (R 26) (I 13) (R 12) (R 28) (R 29) (R 27) (R 30) (R 31) (R 32) (I 6) (I 7) (I 8) (R 1) (R 2) (R 3) (R 4) (I 12) (R 9) (R 10) (R 11) = some (r, o0, o1, o2, o3, o4, o5, o6, o7, o8, o9, o10, o11, o12, o13, o14, o15, o16, o17, o18, o19, o20, o21, o22, o23, o24, o25, o26, o27, o28, o29, o30) ∧ f_X8_load N (J 1) (J 2) (J 3) (J 4) (J 5) (J 6) (J 7) (J 8) (J 9) (J 10) (J 11) (J 12) (J 13) (J 17) (J 23) (S 4) (S 20) (S 21) (S 22) (S 18) (S 19) (S 17) (S 16) (S 0) (S 1) (S 2) (S 3) (S 5) (S 6) (S 7) = some (r, q0, q1, q2, q3, q4, q5, q6, q7, q8, q9, q10, q11, q12, q13, q14, q15, q16, q17, q18, q19, q20, q21, q22, q23, q24, q25, q26, q27, q28, q29) ∧ Rl (va_up (va_up (va_up (va_up (va_up (va_up (va_up (va_up (va_up (va_up (va_up (va_up (va_up (va_up (va_up (va_up (va_up I 2 o0) 3 o1) 6 o3) 7 o5) 8 o8) 12 o9) 27 o13) 28 o14) 29 o15) 30 o16) 31 o17) 32 o18) 33 o19) 34 o21) 35 o23) 36 o26) 37 o27) (va_up (va_up (va_up (va_up (va_up (va_up (va_up (va_up (va_up (va_up (va_up (va_up (va_up (va_up R 1 o2) 2 o4) 3 o6) 4 o7) 9 o10) 10 o11) 11 o12) 26 o20) 27 o22) 28 o24) 29 o25) 30 o28) 31 o29) 32 o30) (va_up (va_up (va_up (va_up (va_up (va_up (va_up (va_up (va_up (va_up (va_up (va_up (va_up (va_up (va_up (va_up J 0 q0) 4 q1) 5 q3) 6 q5) 10 q8) 11 q12) 12 q13) 13 q14) 16 q15) 17 q16) 18 q18) 19 q20) 20 q23) 21 q27) 22 q28) 23 q29) (va_up (va_up (va_up (va_up (va_up (va_up (va_up (va_up (va_up (va_up (va_up (va_up (va_up (va_up S 0 q2) 1 q4) 2 q6) 3 q7) 5 q9) 6 q10) 7 q11) 16 q17) 17 q19) 18 q21) 19 q22) 20 q24) 21 q25) 22 q26)
def pm_fault (Rl : (Nat → Int32) → (Nat → Nat → Int32) → (Nat → Int32) → (Nat → Nat → Int32) → Prop) (N : Nat) : Prop := ∀ (I : Nat → Int32) (R : Nat → Nat → Int32) (J : Nat → Int32) (S : Nat → Nat → Int32) (i1 : Int32), Rl I R J S → ∃ (r : Int32) (q0 : Int32), f_X7_fault i1 (I 2) (I 3) = some (r) ∧ f_X8_fault i1 (J 11) (J 12) (J 13) = some (r, q0) ∧ Rl I R (va_up J 0 q0) S
def pm_mark (Rl : (Nat → Int32) → (Nat → Nat → Int32) → (Nat → Int32) → (Nat → Nat → Int32) → Prop) (N : Nat) : Prop := ∀ (I : Nat → Int32) (R : Nat → Nat → Int32) (J : Nat → Int32) (S : Nat → Nat → Int32) , Rl I R J S → ∃ (r : Int32) (o0 : Int32) (o1 : (Nat → Int32)) (o2 : Int32) (o3 : (Nat → Int32)) (o4 : Int32) (o5 : (Nat → Int32)) (o6 : (Nat → Int32)) (o7 : Int32) (o8 : (Nat → Int32)) (o9 : Int32) (o10 : (Nat → Int32)) (o11 : Int32) (o12 : (Nat → Int32)) (o13 : (Nat → Int32)) (o14 : Int32) (o15 : (Nat → Int32)) (o16 : Int32) (o17 : (Nat → Int32)) (o18 : Int32) (o19 : (Nat → Int32)) (o20 : (Nat → Int32)) (o21 : Int32) (q0 : Int32) (q1 : Int32) (q2 : (Nat → Int32)) (q3 : (Nat → Int32)) (q4 : (Nat → Int32)) (q5 : (Nat → Int32)) (q6 : (Nat → Int32)) (q7 : (Nat → Int32)) (q8 : (Nat → Int32)), f_X7_mark N (I 17) (I 18) (I 19) (I 20) (I 6) (I 7) (I 8) (R 1) (R 14) (R 2) (R 15) (R 3) (R 16) (R 4) (R 17) (I 21) (I 22) (I 23) (R 18) (R 19) (R 20) (R 21) (I 24) (I 25) (I 26) (R 22) (R 23) (R 24) (R 25) = some (r, o0, o1, o2, o3, o4, o5, o6, o7, o8, o9, o10, o11, o12, o13, o14, o15, o16, o17, o18, o19, o20, o21) ∧ f_X8_mark N (J 4) (J 5) (J 6) (J 14) (S 8) (S 0) (S 9) (S 10) (S 1) (S 11) (S 12) (S 2) (S 13) (S 3) (S 14) = some (r, q0, q1, q2, q3, q4, q5, q6, q7, q8) ∧ Rl (va_up (va_up (va_up (va_up (va_up (va_up (va_up (va_up (va_up (va_up I 17 o0) 18 o2) 19 o4) 20 o7) 21 o9) 22 o11) 23 o14) 24 o16) 25 o18) 26 o21) (va_up (va_up (va_up (va_up (va_up (va_up (va_up (va_up (va_up (va_up (va_up (va_up R 14 o1) 15 o3) 16 o5) 17 o6) 18 o8) 19 o10) 20 o12) 21 o13) 22 o15) 23 o17) 24 o19) 25 o20) (va_up (va_up J 0 q0) 14 q1) (va_up (va_up (va_up (va_up (va_up (va_up (va_up S 8 q2) 9 q3) 10 q4) 11 q5) 12 q6) 13 q7) 14 q8)
def pm_undo (Rl : (Nat → Int32) → (Nat → Nat → Int32) → (Nat → Int32) → (Nat → Nat → Int32) → Prop) (N : Nat) : Prop := ∀ (I : Nat → Int32) (R : Nat → Nat → Int32) (J : Nat → Int32) (S : Nat → Nat → Int32) , Rl I R J S → ∃ (r : Int32) (o0 : (Nat → Int32)) (o1 : Int32) (o2 : (Nat → Int32)) (o3 : Int32) (o4 : (Nat → Int32)) (o5 : (Nat → Int32)) (o6 : Int32) (o7 : Int32) (q0 : Int32) (q1 : Int32) (q2 : (Nat → Int32)) (q3 : Int32) (q4 : (Nat → Int32)) (q5 : Int32) (q6 : (Nat → Int32)) (q7 : (Nat → Int32)) (q8 : Int32), f_X7_undo N (I 0) (I 1) (I 17) (I 6) (I 7) (I 8) (I 18) (I 19) (I 20) (R 14) (R 1) (R 15) (R 2) (R 16) (R 3) (R 17) (R 4) (I 21) (I 22) (I 23) (R 18) (R 19) (R 20) (R 21) (I 24) (I 25) (I 26) (R 22) (R 23) (R 24) (R 25) = some (r, o0, o1, o2, o3, o4, o5, o6, o7) ∧ f_X8_undo N (J 4) (J 5) (J 6) (J 7) (J 8) (J 14) (S 8) (S 0) (S 9) (S 10) (S 11) (S 1) (S 12) (S 13) (S 2) (S 14) (S 3) = some (r, q0, q1, q2, q3, q4, q5, q6, q7, q8) ∧ Rl (va_up (va_up (va_up (va_up I 6 o1) 7 o3) 8 o6) 17 o7) (va_up (va_up (va_up (va_up R 1 o0) 2 o2) 3 o4) 4 o5) (va_up (va_up (va_up (va_up (va_up J 0 q0) 4 q1) 5 q3) 6 q5) 14 q8) (va_up (va_up (va_up (va_up S 0 q2) 1 q4) 2 q6) 3 q7)
def pm_restart (Rl : (Nat → Int32) → (Nat → Nat → Int32) → (Nat → Int32) → (Nat → Nat → Int32) → Prop) (N : Nat) : Prop := ∀ (I : Nat → Int32) (R : Nat → Nat → Int32) (J : Nat → Int32) (S : Nat → Nat → Int32) , Rl I R J S → ∃ (r : Int32) (o0 : (Nat → Int32)) (o1 : Int32) (o2 : (Nat → Int32)) (o3 : Int32) (o4 : (Nat → Int32)) (o5 : (Nat → Int32)) (o6 : Int32) (q0 : Int32) (q1 : Int32) (q2 : (Nat → Int32)) (q3 : Int32) (q4 : Int32), f_X7_restart N (I 0) (I 1) (I 6) (I 9) (I 10) (I 11) (R 5) (R 1) (R 6) (R 2) (R 7) (R 3) (R 8) (R 4) = some (r, o0, o1, o2, o3, o4, o5, o6) ∧ f_X8_restart N (J 1) (J 3) (J 7) (J 8) (S 0) = some (r, q0, q1, q2, q3, q4) ∧ Rl (va_up (va_up (va_up I 6 o1) 7 o3) 8 o6) (va_up (va_up (va_up (va_up R 1 o0) 2 o2) 3 o4) 4 o5) (va_up (va_up (va_up (va_up J 0 q0) 4 q1) 5 q3) 6 q4) (va_up S 0 q2)
def pm_at (Rl : (Nat → Int32) → (Nat → Nat → Int32) → (Nat → Int32) → (Nat → Nat → Int32) → Prop) (N : Nat) : Prop := ∀ (I : Nat → Int32) (R : Nat → Nat → Int32) (J : Nat → Int32) (S : Nat → Nat → Int32) (i1 : Int32), Rl I R J S → ∃ (r : Int32) (q0 : Int32), f_X7_at i1 (I 13) (R 12) = some (r) ∧ f_X8_at i1 (J 9) (S 4) = some (r, q0) ∧ Rl I R (va_up J 0 q0) S
def pm_alter (Rl : (Nat → Int32) → (Nat → Nat → Int32) → (Nat → Int32) → (Nat → Nat → Int32) → Prop) (N : Nat) : Prop := ∀ (I : Nat → Int32) (R : Nat → Nat → Int32) (J : Nat → Int32) (S : Nat → Nat → Int32) (i1 : Int32) (i2 : Int32), Rl I R J S → ∃ (r : Int32) (o0 : (Nat → Int32)) (q0 : Int32) (q1 : (Nat → Int32)), f_X7_alter i1 i2 (I 13) (R 12) = some (r, o0) ∧ f_X8_alter i1 i2 (J 9) (S 4) = some (r, q0, q1) ∧ Rl I (va_up R 12 o0) (va_up J 0 q0) (va_up S 4 q1)
def pm_cut (Rl : (Nat → Int32) → (Nat → Nat → Int32) → (Nat → Int32) → (Nat → Nat → Int32) → Prop) (N : Nat) : Prop := ∀ (I : Nat → Int32) (R : Nat → Nat → Int32) (J : Nat → Int32) (S : Nat → Nat → Int32) (i1 : Int32), Rl I R J S → ∃ (r : Int32) (o0 : Int32) (q0 : Int32) (q1 : Int32), f_X7_cut i1 (I 13) = some (r, o0) ∧ f_X8_cut i1 (J 9) = some (r, q0, q1) ∧ Rl (va_up I 13 o0) R (va_up (va_up J 0 q0) 9 q1) S
def pm_more (Rl : (Nat → Int32) → (Nat → Nat → Int32) → (Nat → Int32) → (Nat → Nat → Int32) → Prop) (N : Nat) : Prop := ∀ (I : Nat → Int32) (R : Nat → Nat → Int32) (J : Nat → Int32) (S : Nat → Nat → Int32) (j1 : Int64) (i3 : Int32), Rl I R J S → ∃ (r : Int32) (o0 : (Nat → Int32)) (o1 : Int32) (o2 : Int32) (q0 : Int32) (q1 : Int32) (q2 : (Nat → Int32)), f_X7_more N j1 i3 (I 13) (I 14) (R 12) = some (r, o0, o1, o2) ∧ f_X8_more N j1 i3 (J 9) (S 4) = some (r, q0, q1, q2) ∧ Rl (va_up (va_up I 13 o1) 14 o2) (va_up R 12 o0) (va_up (va_up J 0 q0) 9 q1) (va_up S 4 q2)
def pm_seal (Rl : (Nat → Int32) → (Nat → Nat → Int32) → (Nat → Int32) → (Nat → Nat → Int32) → Prop) (N : Nat) : Prop := ∀ (I : Nat → Int32) (R : Nat → Nat → Int32) (J : Nat → Int32) (S : Nat → Nat → Int32) , Rl I R J S → ∃ (r : Int32) (o0 : (Nat → Int32)) (q0 : Int32) (q1 : (Nat → Int32)), f_X7_seal N (I 13) (R 12) = some (r, o0) ∧ f_X8_seal N (J 9) (S 4) = some (r, q0, q1) ∧ Rl I (va_up R 12 o0) (va_up J 0 q0) (va_up S 4 q1)
def pm_count (Rl : (Nat → Int32) → (Nat → Nat → Int32) → (Nat → Int32) → (Nat → Nat → Int32) → Prop) (N : Nat) : Prop := ∀ (I : Nat → Int32) (R : Nat → Nat → Int32) (J : Nat → Int32) (S : Nat → Nat → Int32) (i1 : Int32), Rl I R J S → ∃ (r : Int32) (q0 : Int32), f_X7_count N i1 (I 6) (I 7) (I 8) (I 13) (I 17) (I 12) (R 10) = some (r) ∧ f_X8_count N i1 (J 4) (J 5) (J 6) (J 9) (J 10) (J 14) (S 6) = some (r, q0) ∧ Rl I R (va_up J 0 q0) S
def pm_hash (Rl : (Nat → Int32) → (Nat → Nat → Int32) → (Nat → Int32) → (Nat → Nat → Int32) → Prop) (N : Nat) : Prop := ∀ (I : Nat → Int32) (R : Nat → Nat → Int32) (J : Nat → Int32) (S : Nat → Nat → Int32) , Rl I R J S → ∃ (r : Int32) (q0 : Int32), f_X7_hash N (I 6) (I 7) (I 8) (R 1) (R 2) (R 3) (R 4) = some (r) ∧ f_X8_hash N (J 4) (J 5) (J 6) (S 0) (S 1) (S 2) (S 3) = some (r, q0) ∧ Rl I R (va_up J 0 q0) S
set_option maxHeartbeats 4000000 in
set_option maxRecDepth 100000 in
theorem lc_peek {p : Program} {l : Launch} {e : Env} {s : State} {m : MethodId} {below : List Frame} {meth : Method} {c : Code} {G : va_G} {E : ClassId × ClassId × ClassId} {b0 L : Nat} {xs : Nat → Int32} (C : LX p s m c G E b0 L xs) (N : Nat) {Rl : (Nat → Int32) → (Nat → Nat → Int32) → (Nat → Int32) → (Nat → Nat → Int32) → Prop} (hpm : pm_peek Rl N) {a b : Nat → Nat} {I : Nat → Int32} {R : Nat → Nat → Int32} {J : Nat → Int32} {S : Nat → Nat → Int32} {ho : Nat} {f : Nat → Int64} {i : Nat} (hi : i + 3 < L) (hL : L ≤ 2051) {cs ss : Nat} (hcs : cs + 1 ≤ 601024) (hss : ss + 6 ≤ 7293000) {H : Heap} {locs : List Loc} {ls : Array Slot} (hRl : Rl I R J S) (hP : va_P G vwCl (LW E a I R b J S ho f) H) (hD : va_D (fun q : Nat => s.heap.size ≤ q) (LW E a I R b J S ho f)) (hS : va_S (fun q : Nat => s.heap.size ≤ q) s.heap H locs) (hl : lv_has ls 7 [(0, .ref b0), (1, .ref (a 0)), (2, .ref (b 0)), (3, .ref ho), (4, .int (nI i))]) (kk : (∀ (a b : Nat → Nat) (I : Nat → Int32) (R : Nat → Nat → Int32) (J : Nat → Int32) (S : Nat → Nat → Int32) (f : Nat → Int64) (H : Heap) (locs : List Loc) (ls : Array Slot), Rl I R J S → va_P G vwCl (LW E a I R b J S ho f) H → va_D (fun q : Nat => s.heap.size ≤ q) (LW E a I R b J S ho f) → va_S (fun q : Nat => s.heap.size ≤ q) s.heap H locs → lv_has ls 7 [(0, .ref b0), (1, .ref (a 0)), (2, .ref (b 0)), (3, .ref ho), (4, .int (nI i))] → W p l e room_1 s m #[Value.ref b0] below meth c H locs (cs + 1) (ss + 6) (lw_Z below #[Value.ref b0] s) (F0 m 720 ls []))) : W p l e room_1 s m #[Value.ref b0] below meth c H locs (cs) (ss) (lw_Z below #[Value.ref b0] s) (F0 m 168 ls []) := by
  obtain ⟨hx, hb, hml, hown, hts, hK, hX, hbl⟩ := C
  have hA : ∀ q : Nat, s.heap.size ≤ q → (fun q : Nat => s.heap.size ≤ q) q := fun _ h => h
  have hbA : ¬ (fun q : Nat => s.heap.size ≤ q) b0 := Nat.not_le.mpr hbl
  obtain ⟨r, q0, h1, h2, hR2⟩ := hpm I R J S (xs (i + 1)) hRl
  refine lv_aload_n hx hb dL_law_168 rfl (lv_at hl 1 rfl) ?_
  refine lv_aload_n hx hb dL_law_169 rfl (lv_at hl 0 rfl) ?_
  refine lv_iload hx hb dL_law_170 (lv_at hl 4 rfl) ?_
  refine lv_iconst (v := nI 1) hx hb dL_law_172 (by decide) ?_
  refine lv_iadd hx hb dL_law_173 ?_
  refine va_sld hx hb hX hbl hbA hS (ix_in 1 (by decide) hi hL).1 dL_law_174 ?_
  refine W.eq (g2 := F0 m 175 ls [.int (xs (i + 1)), .ref (a 0)]) (by rw [(ix_in 1 (by decide) hi hL).2]) ?_
  refine bVi (As := [.int (xs (i + 1))]) (rest := []) ⟨hx, hb, hml, hown, hts⟩ (k_X7_peek l G E N a I R (xs (i + 1)) r  h1) ok_X7_peek okv_X7_peek wd_6e716dcc ⟨Nat.le_of_ble_eq_true rfl, Nat.le_of_ble_eq_true rfl⟩ hK hP hD hS hA (va_recv hK.1 hP (ci := 6) (q0 := 0) rfl rfl) rfl hl.1 rfl (Nat.le_of_ble_eq_true rfl) dL_law_175 ⟨by show cs + 0 ≤ 601024; omega, by show ss + 0 ≤ 7293000; omega⟩ (fun H locs a' hP hD hS => ?_)
  refine lv_aload_n hx hb dL_law_178 rfl (lv_at hl 2 rfl) ?_
  refine lv_aload_n hx hb dL_law_179 rfl (lv_at hl 0 rfl) ?_
  refine lv_iload hx hb dL_law_180 (lv_at hl 4 rfl) ?_
  refine lv_iconst (v := nI 1) hx hb dL_law_182 (by decide) ?_
  refine lv_iadd hx hb dL_law_183 ?_
  refine va_sld hx hb hX hbl hbA hS (ix_in 1 (by decide) hi hL).1 dL_law_184 ?_
  refine W.eq (g2 := F0 m 185 ls [.int (xs (i + 1)), .ref (b 0), .int r]) (by rw [(ix_in 1 (by decide) hi hL).2]) ?_
  replace hP := P_3 hP
  replace hD := D_3 hD
  refine bVi (As := [.int (xs (i + 1))]) (rest := [.int r]) ⟨hx, hb, hml, hown, hts⟩ (k_X8_peek l G E N b J S (xs (i + 1)) r q0 h2) ok_X8_peek okv_X8_peek wd_b1bd0297 ⟨Nat.le_of_ble_eq_true rfl, Nat.le_of_ble_eq_true rfl⟩ hK hP hD hS hA (va_recv hK.1 hP (ci := 7) (q0 := 0) rfl rfl) rfl hl.1 rfl (Nat.le_of_ble_eq_true rfl) dL_law_185 ⟨by show cs + 0 + 0 ≤ 601024; omega, by show ss + 0 + 0 ≤ 7293000; omega⟩ (fun H locs b' hP hD hS => ?_)
  replace hP := P_3 hP
  replace hD := D_3 hD
  refine lv_icmp_eq (tgt := 720) hx hb dL_law_188 (by decide) (fun _ => ?_) (fun c => absurd rfl c)
  refine W.widen (k := cs + 1) (n := ss + 6) (by show cs + 0 + 0 ≤ cs + 1; omega) (by show ss + 0 + 0 ≤ ss + 6; omega) ?_
  exact kk _ _ _ _ _ _ _ _ _ _ hR2 hP hD hS hl

set_option maxHeartbeats 4000000 in
set_option maxRecDepth 100000 in
theorem lc_poke {p : Program} {l : Launch} {e : Env} {s : State} {m : MethodId} {below : List Frame} {meth : Method} {c : Code} {G : va_G} {E : ClassId × ClassId × ClassId} {b0 L : Nat} {xs : Nat → Int32} (C : LX p s m c G E b0 L xs) (N : Nat) {Rl : (Nat → Int32) → (Nat → Nat → Int32) → (Nat → Int32) → (Nat → Nat → Int32) → Prop} (hpm : pm_poke Rl N) {a b : Nat → Nat} {I : Nat → Int32} {R : Nat → Nat → Int32} {J : Nat → Int32} {S : Nat → Nat → Int32} {ho : Nat} {f : Nat → Int64} {i : Nat} (hi : i + 3 < L) (hL : L ≤ 2051) {cs ss : Nat} (hcs : cs + 1 ≤ 601024) (hss : ss + 6 ≤ 7293000) {H : Heap} {locs : List Loc} {ls : Array Slot} (hRl : Rl I R J S) (hP : va_P G vwCl (LW E a I R b J S ho f) H) (hD : va_D (fun q : Nat => s.heap.size ≤ q) (LW E a I R b J S ho f)) (hS : va_S (fun q : Nat => s.heap.size ≤ q) s.heap H locs) (hl : lv_has ls 7 [(0, .ref b0), (1, .ref (a 0)), (2, .ref (b 0)), (3, .ref ho), (4, .int (nI i))]) (kk : (∀ (a b : Nat → Nat) (I : Nat → Int32) (R : Nat → Nat → Int32) (J : Nat → Int32) (S : Nat → Nat → Int32) (f : Nat → Int64) (H : Heap) (locs : List Loc) (ls : Array Slot), Rl I R J S → va_P G vwCl (LW E a I R b J S ho f) H → va_D (fun q : Nat => s.heap.size ≤ q) (LW E a I R b J S ho f) → va_S (fun q : Nat => s.heap.size ≤ q) s.heap H locs → lv_has ls 7 [(0, .ref b0), (1, .ref (a 0)), (2, .ref (b 0)), (3, .ref ho), (4, .int (nI i))] → W p l e room_1 s m #[Value.ref b0] below meth c H locs (cs + 1) (ss + 6) (lw_Z below #[Value.ref b0] s) (F0 m 720 ls []))) : W p l e room_1 s m #[Value.ref b0] below meth c H locs (cs) (ss) (lw_Z below #[Value.ref b0] s) (F0 m 193 ls []) := by
  obtain ⟨hx, hb, hml, hown, hts, hK, hX, hbl⟩ := C
  have hA : ∀ q : Nat, s.heap.size ≤ q → (fun q : Nat => s.heap.size ≤ q) q := fun _ h => h
  have hbA : ¬ (fun q : Nat => s.heap.size ≤ q) b0 := Nat.not_le.mpr hbl
  obtain ⟨r, o0, q0, q1, h1, h2, hR2⟩ := hpm I R J S (xs (i + 1)) (xs (i + 2)) hRl
  refine lv_aload_n hx hb dL_law_193 rfl (lv_at hl 1 rfl) ?_
  refine lv_aload_n hx hb dL_law_194 rfl (lv_at hl 0 rfl) ?_
  refine lv_iload hx hb dL_law_195 (lv_at hl 4 rfl) ?_
  refine lv_iconst (v := nI 1) hx hb dL_law_197 (by decide) ?_
  refine lv_iadd hx hb dL_law_198 ?_
  refine va_sld hx hb hX hbl hbA hS (ix_in 1 (by decide) hi hL).1 dL_law_199 ?_
  refine W.eq (g2 := F0 m 200 ls [.int (xs (i + 1)), .ref (a 0)]) (by rw [(ix_in 1 (by decide) hi hL).2]) ?_
  refine lv_aload_n hx hb dL_law_200 rfl (lv_at hl 0 rfl) ?_
  refine lv_iload hx hb dL_law_201 (lv_at hl 4 rfl) ?_
  refine lv_iconst (v := nI 2) hx hb dL_law_203 (by decide) ?_
  refine lv_iadd hx hb dL_law_204 ?_
  refine va_sld hx hb hX hbl hbA hS (ix_in 2 (by decide) hi hL).1 dL_law_205 ?_
  refine W.eq (g2 := F0 m 206 ls [.int (xs (i + 2)), .int (xs (i + 1)), .ref (a 0)]) (by rw [(ix_in 2 (by decide) hi hL).2]) ?_
  refine bVi (As := [.int (xs (i + 1)), .int (xs (i + 2))]) (rest := []) ⟨hx, hb, hml, hown, hts⟩ (k_X7_poke l G E N a I R (xs (i + 1)) (xs (i + 2)) r o0 h1) ok_X7_poke okv_X7_poke wd_a274e702 ⟨Nat.le_of_ble_eq_true rfl, Nat.le_of_ble_eq_true rfl⟩ hK hP hD hS hA (va_recv hK.1 hP (ci := 6) (q0 := 0) rfl rfl) rfl hl.1 rfl (Nat.le_of_ble_eq_true rfl) dL_law_206 ⟨by show cs + 0 ≤ 601024; omega, by show ss + 0 ≤ 7293000; omega⟩ (fun H locs a' hP hD hS => ?_)
  refine lv_aload_n hx hb dL_law_209 rfl (lv_at hl 2 rfl) ?_
  refine lv_aload_n hx hb dL_law_210 rfl (lv_at hl 0 rfl) ?_
  refine lv_iload hx hb dL_law_211 (lv_at hl 4 rfl) ?_
  refine lv_iconst (v := nI 1) hx hb dL_law_213 (by decide) ?_
  refine lv_iadd hx hb dL_law_214 ?_
  refine va_sld hx hb hX hbl hbA hS (ix_in 1 (by decide) hi hL).1 dL_law_215 ?_
  refine W.eq (g2 := F0 m 216 ls [.int (xs (i + 1)), .ref (b 0), .int r]) (by rw [(ix_in 1 (by decide) hi hL).2]) ?_
  refine lv_aload_n hx hb dL_law_216 rfl (lv_at hl 0 rfl) ?_
  refine lv_iload hx hb dL_law_217 (lv_at hl 4 rfl) ?_
  refine lv_iconst (v := nI 2) hx hb dL_law_219 (by decide) ?_
  refine lv_iadd hx hb dL_law_220 ?_
  refine va_sld hx hb hX hbl hbA hS (ix_in 2 (by decide) hi hL).1 dL_law_221 ?_
  refine W.eq (g2 := F0 m 222 ls [.int (xs (i + 2)), .int (xs (i + 1)), .ref (b 0), .int r]) (by rw [(ix_in 2 (by decide) hi hL).2]) ?_
  replace hP := P_3 hP
  replace hD := D_3 hD
  refine bVi (As := [.int (xs (i + 1)), .int (xs (i + 2))]) (rest := [.int r]) ⟨hx, hb, hml, hown, hts⟩ (k_X8_poke l G E N b J S (xs (i + 1)) (xs (i + 2)) r q0 q1 h2) ok_X8_poke okv_X8_poke wd_3f572326 ⟨Nat.le_of_ble_eq_true rfl, Nat.le_of_ble_eq_true rfl⟩ hK hP hD hS hA (va_recv hK.1 hP (ci := 7) (q0 := 0) rfl rfl) rfl hl.1 rfl (Nat.le_of_ble_eq_true rfl) dL_law_222 ⟨by show cs + 0 + 0 ≤ 601024; omega, by show ss + 0 + 0 ≤ 7293000; omega⟩ (fun H locs b' hP hD hS => ?_)
  replace hP := P_3 hP
  replace hD := D_3 hD
  refine lv_icmp_eq (tgt := 720) hx hb dL_law_225 (by decide) (fun _ => ?_) (fun c => absurd rfl c)
  refine W.widen (k := cs + 1) (n := ss + 6) (by show cs + 0 + 0 ≤ cs + 1; omega) (by show ss + 0 + 0 ≤ ss + 6; omega) ?_
  exact kk _ _ _ _ _ _ _ _ _ _ hR2 hP hD hS hl

set_option maxHeartbeats 4000000 in
set_option maxRecDepth 100000 in
theorem lc_resize {p : Program} {l : Launch} {e : Env} {s : State} {m : MethodId} {below : List Frame} {meth : Method} {c : Code} {G : va_G} {E : ClassId × ClassId × ClassId} {b0 L : Nat} {xs : Nat → Int32} (C : LX p s m c G E b0 L xs) (N : Nat) {Rl : (Nat → Int32) → (Nat → Nat → Int32) → (Nat → Int32) → (Nat → Nat → Int32) → Prop} (hpm : pm_resize Rl N) {a b : Nat → Nat} {I : Nat → Int32} {R : Nat → Nat → Int32} {J : Nat → Int32} {S : Nat → Nat → Int32} {ho : Nat} {f : Nat → Int64} {i : Nat} (hi : i + 3 < L) (hL : L ≤ 2051) {cs ss : Nat} (hcs : cs + 1 ≤ 601024) (hss : ss + 6 ≤ 7293000) {H : Heap} {locs : List Loc} {ls : Array Slot} (hRl : Rl I R J S) (hP : va_P G vwCl (LW E a I R b J S ho f) H) (hD : va_D (fun q : Nat => s.heap.size ≤ q) (LW E a I R b J S ho f)) (hS : va_S (fun q : Nat => s.heap.size ≤ q) s.heap H locs) (hl : lv_has ls 7 [(0, .ref b0), (1, .ref (a 0)), (2, .ref (b 0)), (3, .ref ho), (4, .int (nI i))]) (kk : (∀ (a b : Nat → Nat) (I : Nat → Int32) (R : Nat → Nat → Int32) (J : Nat → Int32) (S : Nat → Nat → Int32) (f : Nat → Int64) (H : Heap) (locs : List Loc) (ls : Array Slot), Rl I R J S → va_P G vwCl (LW E a I R b J S ho f) H → va_D (fun q : Nat => s.heap.size ≤ q) (LW E a I R b J S ho f) → va_S (fun q : Nat => s.heap.size ≤ q) s.heap H locs → lv_has ls 7 [(0, .ref b0), (1, .ref (a 0)), (2, .ref (b 0)), (3, .ref ho), (4, .int (nI i))] → W p l e room_1 s m #[Value.ref b0] below meth c H locs (cs + 1) (ss + 6) (lw_Z below #[Value.ref b0] s) (F0 m 720 ls []))) : W p l e room_1 s m #[Value.ref b0] below meth c H locs (cs) (ss) (lw_Z below #[Value.ref b0] s) (F0 m 230 ls []) := by
  obtain ⟨hx, hb, hml, hown, hts, hK, hX, hbl⟩ := C
  have hA : ∀ q : Nat, s.heap.size ≤ q → (fun q : Nat => s.heap.size ≤ q) q := fun _ h => h
  have hbA : ¬ (fun q : Nat => s.heap.size ≤ q) b0 := Nat.not_le.mpr hbl
  obtain ⟨r, o0, o1, q0, q1, q2, h1, h2, hR2⟩ := hpm I R J S (xs (i + 1)) hRl
  refine lv_aload_n hx hb dL_law_230 rfl (lv_at hl 1 rfl) ?_
  refine lv_aload_n hx hb dL_law_231 rfl (lv_at hl 0 rfl) ?_
  refine lv_iload hx hb dL_law_232 (lv_at hl 4 rfl) ?_
  refine lv_iconst (v := nI 1) hx hb dL_law_234 (by decide) ?_
  refine lv_iadd hx hb dL_law_235 ?_
  refine va_sld hx hb hX hbl hbA hS (ix_in 1 (by decide) hi hL).1 dL_law_236 ?_
  refine W.eq (g2 := F0 m 237 ls [.int (xs (i + 1)), .ref (a 0)]) (by rw [(ix_in 1 (by decide) hi hL).2]) ?_
  refine bVi (As := [.int (xs (i + 1))]) (rest := []) ⟨hx, hb, hml, hown, hts⟩ (k_X7_resize l G E N a I R (xs (i + 1)) r o0 o1 h1) ok_X7_resize okv_X7_resize wd_f187aae3 ⟨Nat.le_of_ble_eq_true rfl, Nat.le_of_ble_eq_true rfl⟩ hK hP hD hS hA (va_recv hK.1 hP (ci := 6) (q0 := 0) rfl rfl) rfl hl.1 rfl (Nat.le_of_ble_eq_true rfl) dL_law_237 ⟨by show cs + 0 ≤ 601024; omega, by show ss + 0 ≤ 7293000; omega⟩ (fun H locs a' hP hD hS => ?_)
  refine lv_aload_n hx hb dL_law_240 rfl (lv_at hl 2 rfl) ?_
  refine lv_aload_n hx hb dL_law_241 rfl (lv_at hl 0 rfl) ?_
  refine lv_iload hx hb dL_law_242 (lv_at hl 4 rfl) ?_
  refine lv_iconst (v := nI 1) hx hb dL_law_244 (by decide) ?_
  refine lv_iadd hx hb dL_law_245 ?_
  refine va_sld hx hb hX hbl hbA hS (ix_in 1 (by decide) hi hL).1 dL_law_246 ?_
  refine W.eq (g2 := F0 m 247 ls [.int (xs (i + 1)), .ref (b 0), .int r]) (by rw [(ix_in 1 (by decide) hi hL).2]) ?_
  replace hP := P_3 hP
  replace hD := D_3 hD
  refine bVi (As := [.int (xs (i + 1))]) (rest := [.int r]) ⟨hx, hb, hml, hown, hts⟩ (k_X8_resize l G E N b J S (xs (i + 1)) r q0 q1 q2 h2) ok_X8_resize okv_X8_resize wd_52badff5 ⟨Nat.le_of_ble_eq_true rfl, Nat.le_of_ble_eq_true rfl⟩ hK hP hD hS hA (va_recv hK.1 hP (ci := 7) (q0 := 0) rfl rfl) rfl hl.1 rfl (Nat.le_of_ble_eq_true rfl) dL_law_247 ⟨by show cs + 0 + 0 ≤ 601024; omega, by show ss + 0 + 0 ≤ 7293000; omega⟩ (fun H locs b' hP hD hS => ?_)
  replace hP := P_3 hP
  replace hD := D_3 hD
  refine lv_icmp_eq (tgt := 720) hx hb dL_law_250 (by decide) (fun _ => ?_) (fun c => absurd rfl c)
  refine W.widen (k := cs + 1) (n := ss + 6) (by show cs + 0 + 0 ≤ cs + 1; omega) (by show ss + 0 + 0 ≤ ss + 6; omega) ?_
  exact kk _ _ _ _ _ _ _ _ _ _ hR2 hP hD hS hl

set_option maxHeartbeats 4000000 in
set_option maxRecDepth 100000 in
theorem lc_push {p : Program} {l : Launch} {e : Env} {s : State} {m : MethodId} {below : List Frame} {meth : Method} {c : Code} {G : va_G} {E : ClassId × ClassId × ClassId} {b0 L : Nat} {xs : Nat → Int32} (C : LX p s m c G E b0 L xs) (N : Nat) {Rl : (Nat → Int32) → (Nat → Nat → Int32) → (Nat → Int32) → (Nat → Nat → Int32) → Prop} (hpm : pm_push Rl N) {a b : Nat → Nat} {I : Nat → Int32} {R : Nat → Nat → Int32} {J : Nat → Int32} {S : Nat → Nat → Int32} {ho : Nat} {f : Nat → Int64} {i : Nat} (hi : i + 3 < L) (hL : L ≤ 2051) {cs ss : Nat} (hcs : cs + 1 ≤ 601024) (hss : ss + 6 ≤ 7293000) {H : Heap} {locs : List Loc} {ls : Array Slot} (hRl : Rl I R J S) (hP : va_P G vwCl (LW E a I R b J S ho f) H) (hD : va_D (fun q : Nat => s.heap.size ≤ q) (LW E a I R b J S ho f)) (hS : va_S (fun q : Nat => s.heap.size ≤ q) s.heap H locs) (hl : lv_has ls 7 [(0, .ref b0), (1, .ref (a 0)), (2, .ref (b 0)), (3, .ref ho), (4, .int (nI i))]) (kk : (∀ (a b : Nat → Nat) (I : Nat → Int32) (R : Nat → Nat → Int32) (J : Nat → Int32) (S : Nat → Nat → Int32) (f : Nat → Int64) (H : Heap) (locs : List Loc) (ls : Array Slot), Rl I R J S → va_P G vwCl (LW E a I R b J S ho f) H → va_D (fun q : Nat => s.heap.size ≤ q) (LW E a I R b J S ho f) → va_S (fun q : Nat => s.heap.size ≤ q) s.heap H locs → lv_has ls 7 [(0, .ref b0), (1, .ref (a 0)), (2, .ref (b 0)), (3, .ref ho), (4, .int (nI i))] → W p l e room_1 s m #[Value.ref b0] below meth c H locs (cs + 1) (ss + 6) (lw_Z below #[Value.ref b0] s) (F0 m 720 ls []))) : W p l e room_1 s m #[Value.ref b0] below meth c H locs (cs) (ss) (lw_Z below #[Value.ref b0] s) (F0 m 255 ls []) := by
  obtain ⟨hx, hb, hml, hown, hts, hK, hX, hbl⟩ := C
  have hA : ∀ q : Nat, s.heap.size ≤ q → (fun q : Nat => s.heap.size ≤ q) q := fun _ h => h
  have hbA : ¬ (fun q : Nat => s.heap.size ≤ q) b0 := Nat.not_le.mpr hbl
  obtain ⟨r, o0, o1, q0, q1, q2, h1, h2, hR2⟩ := hpm I R J S (xs (i + 1)) hRl
  refine lv_aload_n hx hb dL_law_255 rfl (lv_at hl 1 rfl) ?_
  refine lv_aload_n hx hb dL_law_256 rfl (lv_at hl 0 rfl) ?_
  refine lv_iload hx hb dL_law_257 (lv_at hl 4 rfl) ?_
  refine lv_iconst (v := nI 1) hx hb dL_law_259 (by decide) ?_
  refine lv_iadd hx hb dL_law_260 ?_
  refine va_sld hx hb hX hbl hbA hS (ix_in 1 (by decide) hi hL).1 dL_law_261 ?_
  refine W.eq (g2 := F0 m 262 ls [.int (xs (i + 1)), .ref (a 0)]) (by rw [(ix_in 1 (by decide) hi hL).2]) ?_
  refine bVi (As := [.int (xs (i + 1))]) (rest := []) ⟨hx, hb, hml, hown, hts⟩ (k_X7_push l G E N a I R (xs (i + 1)) r o0 o1 h1) ok_X7_push okv_X7_push wd_b87f1d98 ⟨Nat.le_of_ble_eq_true rfl, Nat.le_of_ble_eq_true rfl⟩ hK hP hD hS hA (va_recv hK.1 hP (ci := 6) (q0 := 0) rfl rfl) rfl hl.1 rfl (Nat.le_of_ble_eq_true rfl) dL_law_262 ⟨by show cs + 0 ≤ 601024; omega, by show ss + 0 ≤ 7293000; omega⟩ (fun H locs a' hP hD hS => ?_)
  refine lv_aload_n hx hb dL_law_265 rfl (lv_at hl 2 rfl) ?_
  refine lv_aload_n hx hb dL_law_266 rfl (lv_at hl 0 rfl) ?_
  refine lv_iload hx hb dL_law_267 (lv_at hl 4 rfl) ?_
  refine lv_iconst (v := nI 1) hx hb dL_law_269 (by decide) ?_
  refine lv_iadd hx hb dL_law_270 ?_
  refine va_sld hx hb hX hbl hbA hS (ix_in 1 (by decide) hi hL).1 dL_law_271 ?_
  refine W.eq (g2 := F0 m 272 ls [.int (xs (i + 1)), .ref (b 0), .int r]) (by rw [(ix_in 1 (by decide) hi hL).2]) ?_
  replace hP := P_3 hP
  replace hD := D_3 hD
  refine bVi (As := [.int (xs (i + 1))]) (rest := [.int r]) ⟨hx, hb, hml, hown, hts⟩ (k_X8_push l G E N b J S (xs (i + 1)) r q0 q1 q2 h2) ok_X8_push okv_X8_push wd_9a8c6cf4 ⟨Nat.le_of_ble_eq_true rfl, Nat.le_of_ble_eq_true rfl⟩ hK hP hD hS hA (va_recv hK.1 hP (ci := 7) (q0 := 0) rfl rfl) rfl hl.1 rfl (Nat.le_of_ble_eq_true rfl) dL_law_272 ⟨by show cs + 0 + 0 ≤ 601024; omega, by show ss + 0 + 0 ≤ 7293000; omega⟩ (fun H locs b' hP hD hS => ?_)
  replace hP := P_3 hP
  replace hD := D_3 hD
  refine lv_icmp_eq (tgt := 720) hx hb dL_law_275 (by decide) (fun _ => ?_) (fun c => absurd rfl c)
  refine W.widen (k := cs + 1) (n := ss + 6) (by show cs + 0 + 0 ≤ cs + 1; omega) (by show ss + 0 + 0 ≤ ss + 6; omega) ?_
  exact kk _ _ _ _ _ _ _ _ _ _ hR2 hP hD hS hl

set_option maxHeartbeats 4000000 in
set_option maxRecDepth 100000 in
theorem lc_block {p : Program} {l : Launch} {e : Env} {s : State} {m : MethodId} {below : List Frame} {meth : Method} {c : Code} {G : va_G} {E : ClassId × ClassId × ClassId} {b0 L : Nat} {xs : Nat → Int32} (C : LX p s m c G E b0 L xs) (N : Nat) {Rl : (Nat → Int32) → (Nat → Nat → Int32) → (Nat → Int32) → (Nat → Nat → Int32) → Prop} (hpm : pm_block Rl N) {a b : Nat → Nat} {I : Nat → Int32} {R : Nat → Nat → Int32} {J : Nat → Int32} {S : Nat → Nat → Int32} {ho : Nat} {f : Nat → Int64} {i : Nat} (hi : i + 3 < L) (hL : L ≤ 2051) {cs ss : Nat} (hcs : cs + 1 ≤ 601024) (hss : ss + 6 ≤ 7293000) {H : Heap} {locs : List Loc} {ls : Array Slot} (hRl : Rl I R J S) (hP : va_P G vwCl (LW E a I R b J S ho f) H) (hD : va_D (fun q : Nat => s.heap.size ≤ q) (LW E a I R b J S ho f)) (hS : va_S (fun q : Nat => s.heap.size ≤ q) s.heap H locs) (hl : lv_has ls 7 [(0, .ref b0), (1, .ref (a 0)), (2, .ref (b 0)), (3, .ref ho), (4, .int (nI i))]) (kk : (∀ (a b : Nat → Nat) (I : Nat → Int32) (R : Nat → Nat → Int32) (J : Nat → Int32) (S : Nat → Nat → Int32) (f : Nat → Int64) (H : Heap) (locs : List Loc) (ls : Array Slot), Rl I R J S → va_P G vwCl (LW E a I R b J S ho f) H → va_D (fun q : Nat => s.heap.size ≤ q) (LW E a I R b J S ho f) → va_S (fun q : Nat => s.heap.size ≤ q) s.heap H locs → lv_has ls 7 [(0, .ref b0), (1, .ref (a 0)), (2, .ref (b 0)), (3, .ref ho), (4, .int (nI i))] → W p l e room_1 s m #[Value.ref b0] below meth c H locs (cs + 1) (ss + 6) (lw_Z below #[Value.ref b0] s) (F0 m 720 ls []))) : W p l e room_1 s m #[Value.ref b0] below meth c H locs (cs) (ss) (lw_Z below #[Value.ref b0] s) (F0 m 324 ls []) := by
  obtain ⟨hx, hb, hml, hown, hts, hK, hX, hbl⟩ := C
  have hA : ∀ q : Nat, s.heap.size ≤ q → (fun q : Nat => s.heap.size ≤ q) q := fun _ h => h
  have hbA : ¬ (fun q : Nat => s.heap.size ≤ q) b0 := Nat.not_le.mpr hbl
  obtain ⟨r, o0, o1, o2, q0, q1, q2, q3, h1, h2, hR2⟩ := hpm I R J S (xs (i + 1)) (xs (i + 2)) hRl
  refine lv_aload_n hx hb dL_law_324 rfl (lv_at hl 1 rfl) ?_
  refine lv_aload_n hx hb dL_law_325 rfl (lv_at hl 0 rfl) ?_
  refine lv_iload hx hb dL_law_326 (lv_at hl 4 rfl) ?_
  refine lv_iconst (v := nI 1) hx hb dL_law_328 (by decide) ?_
  refine lv_iadd hx hb dL_law_329 ?_
  refine va_sld hx hb hX hbl hbA hS (ix_in 1 (by decide) hi hL).1 dL_law_330 ?_
  refine W.eq (g2 := F0 m 331 ls [.int (xs (i + 1)), .ref (a 0)]) (by rw [(ix_in 1 (by decide) hi hL).2]) ?_
  refine lv_aload_n hx hb dL_law_331 rfl (lv_at hl 0 rfl) ?_
  refine lv_iload hx hb dL_law_332 (lv_at hl 4 rfl) ?_
  refine lv_iconst (v := nI 2) hx hb dL_law_334 (by decide) ?_
  refine lv_iadd hx hb dL_law_335 ?_
  refine va_sld hx hb hX hbl hbA hS (ix_in 2 (by decide) hi hL).1 dL_law_336 ?_
  refine W.eq (g2 := F0 m 337 ls [.int (xs (i + 2)), .int (xs (i + 1)), .ref (a 0)]) (by rw [(ix_in 2 (by decide) hi hL).2]) ?_
  refine bVi (As := [.int (xs (i + 1)), .int (xs (i + 2))]) (rest := []) ⟨hx, hb, hml, hown, hts⟩ (k_X7_block l G E N a I R (xs (i + 1)) (xs (i + 2)) r o0 o1 o2 h1) ok_X7_block okv_X7_block wd_a23b4ce5 ⟨Nat.le_of_ble_eq_true rfl, Nat.le_of_ble_eq_true rfl⟩ hK hP hD hS hA (va_recv hK.1 hP (ci := 6) (q0 := 0) rfl rfl) rfl hl.1 rfl (Nat.le_of_ble_eq_true rfl) dL_law_337 ⟨by show cs + 0 ≤ 601024; omega, by show ss + 0 ≤ 7293000; omega⟩ (fun H locs a' hP hD hS => ?_)
  refine lv_aload_n hx hb dL_law_340 rfl (lv_at hl 2 rfl) ?_
  refine lv_aload_n hx hb dL_law_341 rfl (lv_at hl 0 rfl) ?_
  refine lv_iload hx hb dL_law_342 (lv_at hl 4 rfl) ?_
  refine lv_iconst (v := nI 1) hx hb dL_law_344 (by decide) ?_
  refine lv_iadd hx hb dL_law_345 ?_
  refine va_sld hx hb hX hbl hbA hS (ix_in 1 (by decide) hi hL).1 dL_law_346 ?_
  refine W.eq (g2 := F0 m 347 ls [.int (xs (i + 1)), .ref (b 0), .int r]) (by rw [(ix_in 1 (by decide) hi hL).2]) ?_
  refine lv_aload_n hx hb dL_law_347 rfl (lv_at hl 0 rfl) ?_
  refine lv_iload hx hb dL_law_348 (lv_at hl 4 rfl) ?_
  refine lv_iconst (v := nI 2) hx hb dL_law_350 (by decide) ?_
  refine lv_iadd hx hb dL_law_351 ?_
  refine va_sld hx hb hX hbl hbA hS (ix_in 2 (by decide) hi hL).1 dL_law_352 ?_
  refine W.eq (g2 := F0 m 353 ls [.int (xs (i + 2)), .int (xs (i + 1)), .ref (b 0), .int r]) (by rw [(ix_in 2 (by decide) hi hL).2]) ?_
  replace hP := P_3 hP
  replace hD := D_3 hD
  refine bVi (As := [.int (xs (i + 1)), .int (xs (i + 2))]) (rest := [.int r]) ⟨hx, hb, hml, hown, hts⟩ (k_X8_block l G E N b J S (xs (i + 1)) (xs (i + 2)) r q0 q1 q2 q3 h2) ok_X8_block okv_X8_block wd_587bdb86 ⟨Nat.le_of_ble_eq_true rfl, Nat.le_of_ble_eq_true rfl⟩ hK hP hD hS hA (va_recv hK.1 hP (ci := 7) (q0 := 0) rfl rfl) rfl hl.1 rfl (Nat.le_of_ble_eq_true rfl) dL_law_353 ⟨by show cs + 0 + 0 ≤ 601024; omega, by show ss + 0 + 0 ≤ 7293000; omega⟩ (fun H locs b' hP hD hS => ?_)
  replace hP := P_3 hP
  replace hD := D_3 hD
  refine lv_icmp_eq (tgt := 720) hx hb dL_law_356 (by decide) (fun _ => ?_) (fun c => absurd rfl c)
  refine W.widen (k := cs + 1) (n := ss + 6) (by show cs + 0 + 0 ≤ cs + 1; omega) (by show ss + 0 + 0 ≤ ss + 6; omega) ?_
  exact kk _ _ _ _ _ _ _ _ _ _ hR2 hP hD hS hl

set_option maxHeartbeats 4000000 in
set_option maxRecDepth 100000 in
theorem lc_free {p : Program} {l : Launch} {e : Env} {s : State} {m : MethodId} {below : List Frame} {meth : Method} {c : Code} {G : va_G} {E : ClassId × ClassId × ClassId} {b0 L : Nat} {xs : Nat → Int32} (C : LX p s m c G E b0 L xs) (N : Nat) {Rl : (Nat → Int32) → (Nat → Nat → Int32) → (Nat → Int32) → (Nat → Nat → Int32) → Prop} (hpm : pm_free Rl N) {a b : Nat → Nat} {I : Nat → Int32} {R : Nat → Nat → Int32} {J : Nat → Int32} {S : Nat → Nat → Int32} {ho : Nat} {f : Nat → Int64} {i : Nat} (hi : i + 3 < L) (hL : L ≤ 2051) {cs ss : Nat} (hcs : cs + 1 ≤ 601024) (hss : ss + 6 ≤ 7293000) {H : Heap} {locs : List Loc} {ls : Array Slot} (hRl : Rl I R J S) (hP : va_P G vwCl (LW E a I R b J S ho f) H) (hD : va_D (fun q : Nat => s.heap.size ≤ q) (LW E a I R b J S ho f)) (hS : va_S (fun q : Nat => s.heap.size ≤ q) s.heap H locs) (hl : lv_has ls 7 [(0, .ref b0), (1, .ref (a 0)), (2, .ref (b 0)), (3, .ref ho), (4, .int (nI i))]) (kk : (∀ (a b : Nat → Nat) (I : Nat → Int32) (R : Nat → Nat → Int32) (J : Nat → Int32) (S : Nat → Nat → Int32) (f : Nat → Int64) (H : Heap) (locs : List Loc) (ls : Array Slot), Rl I R J S → va_P G vwCl (LW E a I R b J S ho f) H → va_D (fun q : Nat => s.heap.size ≤ q) (LW E a I R b J S ho f) → va_S (fun q : Nat => s.heap.size ≤ q) s.heap H locs → lv_has ls 7 [(0, .ref b0), (1, .ref (a 0)), (2, .ref (b 0)), (3, .ref ho), (4, .int (nI i))] → W p l e room_1 s m #[Value.ref b0] below meth c H locs (cs + 1) (ss + 6) (lw_Z below #[Value.ref b0] s) (F0 m 720 ls []))) : W p l e room_1 s m #[Value.ref b0] below meth c H locs (cs) (ss) (lw_Z below #[Value.ref b0] s) (F0 m 361 ls []) := by
  obtain ⟨hx, hb, hml, hown, hts, hK, hX, hbl⟩ := C
  have hA : ∀ q : Nat, s.heap.size ≤ q → (fun q : Nat => s.heap.size ≤ q) q := fun _ h => h
  have hbA : ¬ (fun q : Nat => s.heap.size ≤ q) b0 := Nat.not_le.mpr hbl
  obtain ⟨r, o0, o1, o2, q0, q1, q2, q3, h1, h2, hR2⟩ := hpm I R J S (xs (i + 1)) hRl
  refine lv_aload_n hx hb dL_law_361 rfl (lv_at hl 1 rfl) ?_
  refine lv_aload_n hx hb dL_law_362 rfl (lv_at hl 0 rfl) ?_
  refine lv_iload hx hb dL_law_363 (lv_at hl 4 rfl) ?_
  refine lv_iconst (v := nI 1) hx hb dL_law_365 (by decide) ?_
  refine lv_iadd hx hb dL_law_366 ?_
  refine va_sld hx hb hX hbl hbA hS (ix_in 1 (by decide) hi hL).1 dL_law_367 ?_
  refine W.eq (g2 := F0 m 368 ls [.int (xs (i + 1)), .ref (a 0)]) (by rw [(ix_in 1 (by decide) hi hL).2]) ?_
  refine bVi (As := [.int (xs (i + 1))]) (rest := []) ⟨hx, hb, hml, hown, hts⟩ (k_X7_free l G E N a I R (xs (i + 1)) r o0 o1 o2 h1) ok_X7_free okv_X7_free wd_5d3c0b63 ⟨Nat.le_of_ble_eq_true rfl, Nat.le_of_ble_eq_true rfl⟩ hK hP hD hS hA (va_recv hK.1 hP (ci := 6) (q0 := 0) rfl rfl) rfl hl.1 rfl (Nat.le_of_ble_eq_true rfl) dL_law_368 ⟨by show cs + 0 ≤ 601024; omega, by show ss + 0 ≤ 7293000; omega⟩ (fun H locs a' hP hD hS => ?_)
  refine lv_aload_n hx hb dL_law_371 rfl (lv_at hl 2 rfl) ?_
  refine lv_aload_n hx hb dL_law_372 rfl (lv_at hl 0 rfl) ?_
  refine lv_iload hx hb dL_law_373 (lv_at hl 4 rfl) ?_
  refine lv_iconst (v := nI 1) hx hb dL_law_375 (by decide) ?_
  refine lv_iadd hx hb dL_law_376 ?_
  refine va_sld hx hb hX hbl hbA hS (ix_in 1 (by decide) hi hL).1 dL_law_377 ?_
  refine W.eq (g2 := F0 m 378 ls [.int (xs (i + 1)), .ref (b 0), .int r]) (by rw [(ix_in 1 (by decide) hi hL).2]) ?_
  replace hP := P_3 hP
  replace hD := D_3 hD
  refine bVi (As := [.int (xs (i + 1))]) (rest := [.int r]) ⟨hx, hb, hml, hown, hts⟩ (k_X8_free l G E N b J S (xs (i + 1)) r q0 q1 q2 q3 h2) ok_X8_free okv_X8_free wd_f1e4880f ⟨Nat.le_of_ble_eq_true rfl, Nat.le_of_ble_eq_true rfl⟩ hK hP hD hS hA (va_recv hK.1 hP (ci := 7) (q0 := 0) rfl rfl) rfl hl.1 rfl (Nat.le_of_ble_eq_true rfl) dL_law_378 ⟨by show cs + 0 + 0 ≤ 601024; omega, by show ss + 0 + 0 ≤ 7293000; omega⟩ (fun H locs b' hP hD hS => ?_)
  replace hP := P_3 hP
  replace hD := D_3 hD
  refine lv_icmp_eq (tgt := 720) hx hb dL_law_381 (by decide) (fun _ => ?_) (fun c => absurd rfl c)
  refine W.widen (k := cs + 1) (n := ss + 6) (by show cs + 0 + 0 ≤ cs + 1; omega) (by show ss + 0 + 0 ≤ ss + 6; omega) ?_
  exact kk _ _ _ _ _ _ _ _ _ _ hR2 hP hD hS hl

set_option maxHeartbeats 4000000 in
set_option maxRecDepth 100000 in
theorem lc_protect {p : Program} {l : Launch} {e : Env} {s : State} {m : MethodId} {below : List Frame} {meth : Method} {c : Code} {G : va_G} {E : ClassId × ClassId × ClassId} {b0 L : Nat} {xs : Nat → Int32} (C : LX p s m c G E b0 L xs) (N : Nat) {Rl : (Nat → Int32) → (Nat → Nat → Int32) → (Nat → Int32) → (Nat → Nat → Int32) → Prop} (hpm : pm_protect Rl N) {a b : Nat → Nat} {I : Nat → Int32} {R : Nat → Nat → Int32} {J : Nat → Int32} {S : Nat → Nat → Int32} {ho : Nat} {f : Nat → Int64} {i : Nat} (hi : i + 3 < L) (hL : L ≤ 2051) {cs ss : Nat} (hcs : cs + 1 ≤ 601024) (hss : ss + 6 ≤ 7293000) {H : Heap} {locs : List Loc} {ls : Array Slot} (hRl : Rl I R J S) (hP : va_P G vwCl (LW E a I R b J S ho f) H) (hD : va_D (fun q : Nat => s.heap.size ≤ q) (LW E a I R b J S ho f)) (hS : va_S (fun q : Nat => s.heap.size ≤ q) s.heap H locs) (hl : lv_has ls 7 [(0, .ref b0), (1, .ref (a 0)), (2, .ref (b 0)), (3, .ref ho), (4, .int (nI i))]) (kk : (∀ (a b : Nat → Nat) (I : Nat → Int32) (R : Nat → Nat → Int32) (J : Nat → Int32) (S : Nat → Nat → Int32) (f : Nat → Int64) (H : Heap) (locs : List Loc) (ls : Array Slot), Rl I R J S → va_P G vwCl (LW E a I R b J S ho f) H → va_D (fun q : Nat => s.heap.size ≤ q) (LW E a I R b J S ho f) → va_S (fun q : Nat => s.heap.size ≤ q) s.heap H locs → lv_has ls 7 [(0, .ref b0), (1, .ref (a 0)), (2, .ref (b 0)), (3, .ref ho), (4, .int (nI i))] → W p l e room_1 s m #[Value.ref b0] below meth c H locs (cs + 1) (ss + 6) (lw_Z below #[Value.ref b0] s) (F0 m 720 ls []))) : W p l e room_1 s m #[Value.ref b0] below meth c H locs (cs) (ss) (lw_Z below #[Value.ref b0] s) (F0 m 386 ls []) := by
  obtain ⟨hx, hb, hml, hown, hts, hK, hX, hbl⟩ := C
  have hA : ∀ q : Nat, s.heap.size ≤ q → (fun q : Nat => s.heap.size ≤ q) q := fun _ h => h
  have hbA : ¬ (fun q : Nat => s.heap.size ≤ q) b0 := Nat.not_le.mpr hbl
  obtain ⟨r, o0, o1, q0, q1, q2, h1, h2, hR2⟩ := hpm I R J S (xs (i + 1)) (xs (i + 2)) hRl
  refine lv_aload_n hx hb dL_law_386 rfl (lv_at hl 1 rfl) ?_
  refine lv_aload_n hx hb dL_law_387 rfl (lv_at hl 0 rfl) ?_
  refine lv_iload hx hb dL_law_388 (lv_at hl 4 rfl) ?_
  refine lv_iconst (v := nI 1) hx hb dL_law_390 (by decide) ?_
  refine lv_iadd hx hb dL_law_391 ?_
  refine va_sld hx hb hX hbl hbA hS (ix_in 1 (by decide) hi hL).1 dL_law_392 ?_
  refine W.eq (g2 := F0 m 393 ls [.int (xs (i + 1)), .ref (a 0)]) (by rw [(ix_in 1 (by decide) hi hL).2]) ?_
  refine lv_aload_n hx hb dL_law_393 rfl (lv_at hl 0 rfl) ?_
  refine lv_iload hx hb dL_law_394 (lv_at hl 4 rfl) ?_
  refine lv_iconst (v := nI 2) hx hb dL_law_396 (by decide) ?_
  refine lv_iadd hx hb dL_law_397 ?_
  refine va_sld hx hb hX hbl hbA hS (ix_in 2 (by decide) hi hL).1 dL_law_398 ?_
  refine W.eq (g2 := F0 m 399 ls [.int (xs (i + 2)), .int (xs (i + 1)), .ref (a 0)]) (by rw [(ix_in 2 (by decide) hi hL).2]) ?_
  refine bVi (As := [.int (xs (i + 1)), .int (xs (i + 2))]) (rest := []) ⟨hx, hb, hml, hown, hts⟩ (k_X7_protect l G E N a I R (xs (i + 1)) (xs (i + 2)) r o0 o1 h1) ok_X7_protect okv_X7_protect wd_24e234e5 ⟨Nat.le_of_ble_eq_true rfl, Nat.le_of_ble_eq_true rfl⟩ hK hP hD hS hA (va_recv hK.1 hP (ci := 6) (q0 := 0) rfl rfl) rfl hl.1 rfl (Nat.le_of_ble_eq_true rfl) dL_law_399 ⟨by show cs + 0 ≤ 601024; omega, by show ss + 0 ≤ 7293000; omega⟩ (fun H locs a' hP hD hS => ?_)
  refine lv_aload_n hx hb dL_law_402 rfl (lv_at hl 2 rfl) ?_
  refine lv_aload_n hx hb dL_law_403 rfl (lv_at hl 0 rfl) ?_
  refine lv_iload hx hb dL_law_404 (lv_at hl 4 rfl) ?_
  refine lv_iconst (v := nI 1) hx hb dL_law_406 (by decide) ?_
  refine lv_iadd hx hb dL_law_407 ?_
  refine va_sld hx hb hX hbl hbA hS (ix_in 1 (by decide) hi hL).1 dL_law_408 ?_
  refine W.eq (g2 := F0 m 409 ls [.int (xs (i + 1)), .ref (b 0), .int r]) (by rw [(ix_in 1 (by decide) hi hL).2]) ?_
  refine lv_aload_n hx hb dL_law_409 rfl (lv_at hl 0 rfl) ?_
  refine lv_iload hx hb dL_law_410 (lv_at hl 4 rfl) ?_
  refine lv_iconst (v := nI 2) hx hb dL_law_412 (by decide) ?_
  refine lv_iadd hx hb dL_law_413 ?_
  refine va_sld hx hb hX hbl hbA hS (ix_in 2 (by decide) hi hL).1 dL_law_414 ?_
  refine W.eq (g2 := F0 m 415 ls [.int (xs (i + 2)), .int (xs (i + 1)), .ref (b 0), .int r]) (by rw [(ix_in 2 (by decide) hi hL).2]) ?_
  replace hP := P_3 hP
  replace hD := D_3 hD
  refine bVi (As := [.int (xs (i + 1)), .int (xs (i + 2))]) (rest := [.int r]) ⟨hx, hb, hml, hown, hts⟩ (k_X8_protect l G E N b J S (xs (i + 1)) (xs (i + 2)) r q0 q1 q2 h2) ok_X8_protect okv_X8_protect wd_146e6486 ⟨Nat.le_of_ble_eq_true rfl, Nat.le_of_ble_eq_true rfl⟩ hK hP hD hS hA (va_recv hK.1 hP (ci := 7) (q0 := 0) rfl rfl) rfl hl.1 rfl (Nat.le_of_ble_eq_true rfl) dL_law_415 ⟨by show cs + 0 + 0 ≤ 601024; omega, by show ss + 0 + 0 ≤ 7293000; omega⟩ (fun H locs b' hP hD hS => ?_)
  replace hP := P_3 hP
  replace hD := D_3 hD
  refine lv_icmp_eq (tgt := 720) hx hb dL_law_418 (by decide) (fun _ => ?_) (fun c => absurd rfl c)
  refine W.widen (k := cs + 1) (n := ss + 6) (by show cs + 0 + 0 ≤ cs + 1; omega) (by show ss + 0 + 0 ≤ ss + 6; omega) ?_
  exact kk _ _ _ _ _ _ _ _ _ _ hR2 hP hD hS hl

set_option maxHeartbeats 4000000 in
set_option maxRecDepth 100000 in
theorem lc_save {p : Program} {l : Launch} {e : Env} {s : State} {m : MethodId} {below : List Frame} {meth : Method} {c : Code} {G : va_G} {E : ClassId × ClassId × ClassId} {b0 L : Nat} {xs : Nat → Int32} (C : LX p s m c G E b0 L xs) (N : Nat) {Rl : (Nat → Int32) → (Nat → Nat → Int32) → (Nat → Int32) → (Nat → Nat → Int32) → Prop} (hpm : pm_save Rl N) {a b : Nat → Nat} {I : Nat → Int32} {R : Nat → Nat → Int32} {J : Nat → Int32} {S : Nat → Nat → Int32} {ho : Nat} {f : Nat → Int64} {i : Nat} (hi : i + 3 < L) (hL : L ≤ 2051) {cs ss : Nat} (hcs : cs + 1 ≤ 601024) (hss : ss + 6 ≤ 7293000) {H : Heap} {locs : List Loc} {ls : Array Slot} (hRl : Rl I R J S) (hP : va_P G vwCl (LW E a I R b J S ho f) H) (hD : va_D (fun q : Nat => s.heap.size ≤ q) (LW E a I R b J S ho f)) (hS : va_S (fun q : Nat => s.heap.size ≤ q) s.heap H locs) (hl : lv_has ls 7 [(0, .ref b0), (1, .ref (a 0)), (2, .ref (b 0)), (3, .ref ho), (4, .int (nI i))]) (kk : (∀ (a b : Nat → Nat) (I : Nat → Int32) (R : Nat → Nat → Int32) (J : Nat → Int32) (S : Nat → Nat → Int32) (f : Nat → Int64) (H : Heap) (locs : List Loc) (ls : Array Slot), Rl I R J S → va_P G vwCl (LW E a I R b J S ho f) H → va_D (fun q : Nat => s.heap.size ≤ q) (LW E a I R b J S ho f) → va_S (fun q : Nat => s.heap.size ≤ q) s.heap H locs → lv_has ls 7 [(0, .ref b0), (1, .ref (a 0)), (2, .ref (b 0)), (3, .ref ho), (4, .int (nI i))] → W p l e room_1 s m #[Value.ref b0] below meth c H locs (cs + 1) (ss + 6) (lw_Z below #[Value.ref b0] s) (F0 m 720 ls []))) : W p l e room_1 s m #[Value.ref b0] below meth c H locs (cs) (ss) (lw_Z below #[Value.ref b0] s) (F0 m 423 ls []) := by
  obtain ⟨hx, hb, hml, hown, hts, hK, hX, hbl⟩ := C
  have hA : ∀ q : Nat, s.heap.size ≤ q → (fun q : Nat => s.heap.size ≤ q) q := fun _ h => h
  have hbA : ¬ (fun q : Nat => s.heap.size ≤ q) b0 := Nat.not_le.mpr hbl
  obtain ⟨r, o0, o1, o2, o3, o4, q0, q1, q2, q3, q4, h1, h2, hR2⟩ := hpm I R J S  hRl
  refine lv_aload_n hx hb dL_law_423 rfl (lv_at hl 1 rfl) ?_
  refine bVi (As := []) (rest := []) ⟨hx, hb, hml, hown, hts⟩ (k_X7_save l G E N a I R  r o0 o1 o2 o3 o4 h1) ok_X7_save okv_X7_save wd_35eaa7f4 ⟨Nat.le_of_ble_eq_true rfl, Nat.le_of_ble_eq_true rfl⟩ hK hP hD hS hA (va_recv hK.1 hP (ci := 6) (q0 := 0) rfl rfl) rfl hl.1 rfl (Nat.le_of_ble_eq_true rfl) dL_law_424 ⟨by show cs + 0 ≤ 601024; omega, by show ss + 0 ≤ 7293000; omega⟩ (fun H locs a' hP hD hS => ?_)
  refine lv_aload_n hx hb dL_law_427 rfl (lv_at hl 2 rfl) ?_
  replace hP := P_3 hP
  replace hD := D_3 hD
  refine bVi (As := []) (rest := [.int r]) ⟨hx, hb, hml, hown, hts⟩ (k_X8_save l G E N b J S  r q0 q1 q2 q3 q4 h2) ok_X8_save okv_X8_save wd_f101bb0b ⟨Nat.le_of_ble_eq_true rfl, Nat.le_of_ble_eq_true rfl⟩ hK hP hD hS hA (va_recv hK.1 hP (ci := 7) (q0 := 0) rfl rfl) rfl hl.1 rfl (Nat.le_of_ble_eq_true rfl) dL_law_428 ⟨by show cs + 0 + 0 ≤ 601024; omega, by show ss + 0 + 0 ≤ 7293000; omega⟩ (fun H locs b' hP hD hS => ?_)
  replace hP := P_3 hP
  replace hD := D_3 hD
  refine lv_icmp_eq (tgt := 720) hx hb dL_law_431 (by decide) (fun _ => ?_) (fun c => absurd rfl c)
  refine W.widen (k := cs + 1) (n := ss + 6) (by show cs + 0 + 0 ≤ cs + 1; omega) (by show ss + 0 + 0 ≤ ss + 6; omega) ?_
  exact kk _ _ _ _ _ _ _ _ _ _ hR2 hP hD hS hl

set_option maxHeartbeats 4000000 in
set_option maxRecDepth 100000 in
theorem lc_load {p : Program} {l : Launch} {e : Env} {s : State} {m : MethodId} {below : List Frame} {meth : Method} {c : Code} {G : va_G} {E : ClassId × ClassId × ClassId} {b0 L : Nat} {xs : Nat → Int32} (C : LX p s m c G E b0 L xs) (N : Nat) {Rl : (Nat → Int32) → (Nat → Nat → Int32) → (Nat → Int32) → (Nat → Nat → Int32) → Prop} (hpm : pm_load Rl N) {a b : Nat → Nat} {I : Nat → Int32} {R : Nat → Nat → Int32} {J : Nat → Int32} {S : Nat → Nat → Int32} {ho : Nat} {f : Nat → Int64} {i : Nat} (hi : i + 3 < L) (hL : L ≤ 2051) {cs ss : Nat} (hcs : cs + 1 ≤ 601024) (hss : ss + 6 ≤ 7293000) {H : Heap} {locs : List Loc} {ls : Array Slot} (hRl : Rl I R J S) (hP : va_P G vwCl (LW E a I R b J S ho f) H) (hD : va_D (fun q : Nat => s.heap.size ≤ q) (LW E a I R b J S ho f)) (hS : va_S (fun q : Nat => s.heap.size ≤ q) s.heap H locs) (hl : lv_has ls 7 [(0, .ref b0), (1, .ref (a 0)), (2, .ref (b 0)), (3, .ref ho), (4, .int (nI i))]) (kk : (∀ (a b : Nat → Nat) (I : Nat → Int32) (R : Nat → Nat → Int32) (J : Nat → Int32) (S : Nat → Nat → Int32) (f : Nat → Int64) (H : Heap) (locs : List Loc) (ls : Array Slot), Rl I R J S → va_P G vwCl (LW E a I R b J S ho f) H → va_D (fun q : Nat => s.heap.size ≤ q) (LW E a I R b J S ho f) → va_S (fun q : Nat => s.heap.size ≤ q) s.heap H locs → lv_has ls 7 [(0, .ref b0), (1, .ref (a 0)), (2, .ref (b 0)), (3, .ref ho), (4, .int (nI i))] → W p l e room_1 s m #[Value.ref b0] below meth c H locs (cs + 1) (ss + 6) (lw_Z below #[Value.ref b0] s) (F0 m 720 ls []))) : W p l e room_1 s m #[Value.ref b0] below meth c H locs (cs) (ss) (lw_Z below #[Value.ref b0] s) (F0 m 436 ls []) := by
  obtain ⟨hx, hb, hml, hown, hts, hK, hX, hbl⟩ := C
  have hA : ∀ q : Nat, s.heap.size ≤ q → (fun q : Nat => s.heap.size ≤ q) q := fun _ h => h
  have hbA : ¬ (fun q : Nat => s.heap.size ≤ q) b0 := Nat.not_le.mpr hbl
  obtain ⟨r, o0, o1, o2, o3, o4, o5, o6, o7, o8, o9, o10, o11, o12, o13, o14, o15, o16, o17, o18, o19, o20, o21, o22, o23, o24, o25, o26, o27, o28, o29, o30, q0, q1, q2, q3, q4, q5, q6, q7, q8, q9, q10, q11, q12, q13, q14, q15, q16, q17, q18, q19, q20, q21, q22, q23, q24, q25, q26, q27, q28, q29, h1, h2, hR2⟩ := hpm I R J S  hRl
  refine lv_aload_n hx hb dL_law_436 rfl (lv_at hl 1 rfl) ?_
  refine bVi (As := []) (rest := []) ⟨hx, hb, hml, hown, hts⟩ (k_X7_load l G E N a I R  r o0 o1 o2 o3 o4 o5 o6 o7 o8 o9 o10 o11 o12 o13 o14 o15 o16 o17 o18 o19 o20 o21 o22 o23 o24 o25 o26 o27 o28 o29 o30 h1) ok_X7_load okv_X7_load wd_de0b7691 ⟨Nat.le_of_ble_eq_true rfl, Nat.le_of_ble_eq_true rfl⟩ hK hP hD hS hA (va_recv hK.1 hP (ci := 6) (q0 := 0) rfl rfl) rfl hl.1 rfl (Nat.le_of_ble_eq_true rfl) dL_law_437 ⟨by show cs + 0 ≤ 601024; omega, by show ss + 0 ≤ 7293000; omega⟩ (fun H locs a' hP hD hS => ?_)
  refine lv_aload_n hx hb dL_law_440 rfl (lv_at hl 2 rfl) ?_
  replace hP := P_3 hP
  replace hD := D_3 hD
  refine bVi (As := []) (rest := [.int r]) ⟨hx, hb, hml, hown, hts⟩ (k_X8_load l G E N b J S  r q0 q1 q2 q3 q4 q5 q6 q7 q8 q9 q10 q11 q12 q13 q14 q15 q16 q17 q18 q19 q20 q21 q22 q23 q24 q25 q26 q27 q28 q29 h2) ok_X8_load okv_X8_load wd_e87cf81d ⟨Nat.le_of_ble_eq_true rfl, Nat.le_of_ble_eq_true rfl⟩ hK hP hD hS hA (va_recv hK.1 hP (ci := 7) (q0 := 0) rfl rfl) rfl hl.1 rfl (Nat.le_of_ble_eq_true rfl) dL_law_441 ⟨by show cs + 0 + 0 ≤ 601024; omega, by show ss + 0 + 0 ≤ 7293000; omega⟩ (fun H locs b' hP hD hS => ?_)
  replace hP := P_3 hP
  replace hD := D_3 hD
  refine lv_icmp_eq (tgt := 720) hx hb dL_law_444 (by decide) (fun _ => ?_) (fun c => absurd rfl c)
  refine W.widen (k := cs + 1) (n := ss + 6) (by show cs + 0 + 0 ≤ cs + 1; omega) (by show ss + 0 + 0 ≤ ss + 6; omega) ?_
  exact kk _ _ _ _ _ _ _ _ _ _ hR2 hP hD hS hl

set_option maxHeartbeats 4000000 in
set_option maxRecDepth 100000 in
theorem lc_fault {p : Program} {l : Launch} {e : Env} {s : State} {m : MethodId} {below : List Frame} {meth : Method} {c : Code} {G : va_G} {E : ClassId × ClassId × ClassId} {b0 L : Nat} {xs : Nat → Int32} (C : LX p s m c G E b0 L xs) (N : Nat) {Rl : (Nat → Int32) → (Nat → Nat → Int32) → (Nat → Int32) → (Nat → Nat → Int32) → Prop} (hpm : pm_fault Rl N) {a b : Nat → Nat} {I : Nat → Int32} {R : Nat → Nat → Int32} {J : Nat → Int32} {S : Nat → Nat → Int32} {ho : Nat} {f : Nat → Int64} {i : Nat} (hi : i + 3 < L) (hL : L ≤ 2051) {cs ss : Nat} (hcs : cs + 1 ≤ 601024) (hss : ss + 6 ≤ 7293000) {H : Heap} {locs : List Loc} {ls : Array Slot} (hRl : Rl I R J S) (hP : va_P G vwCl (LW E a I R b J S ho f) H) (hD : va_D (fun q : Nat => s.heap.size ≤ q) (LW E a I R b J S ho f)) (hS : va_S (fun q : Nat => s.heap.size ≤ q) s.heap H locs) (hl : lv_has ls 7 [(0, .ref b0), (1, .ref (a 0)), (2, .ref (b 0)), (3, .ref ho), (4, .int (nI i))]) (kk : (∀ (a b : Nat → Nat) (I : Nat → Int32) (R : Nat → Nat → Int32) (J : Nat → Int32) (S : Nat → Nat → Int32) (f : Nat → Int64) (H : Heap) (locs : List Loc) (ls : Array Slot), Rl I R J S → va_P G vwCl (LW E a I R b J S ho f) H → va_D (fun q : Nat => s.heap.size ≤ q) (LW E a I R b J S ho f) → va_S (fun q : Nat => s.heap.size ≤ q) s.heap H locs → lv_has ls 7 [(0, .ref b0), (1, .ref (a 0)), (2, .ref (b 0)), (3, .ref ho), (4, .int (nI i))] → W p l e room_1 s m #[Value.ref b0] below meth c H locs (cs + 1) (ss + 6) (lw_Z below #[Value.ref b0] s) (F0 m 720 ls []))) : W p l e room_1 s m #[Value.ref b0] below meth c H locs (cs) (ss) (lw_Z below #[Value.ref b0] s) (F0 m 449 ls []) := by
  obtain ⟨hx, hb, hml, hown, hts, hK, hX, hbl⟩ := C
  have hA : ∀ q : Nat, s.heap.size ≤ q → (fun q : Nat => s.heap.size ≤ q) q := fun _ h => h
  have hbA : ¬ (fun q : Nat => s.heap.size ≤ q) b0 := Nat.not_le.mpr hbl
  obtain ⟨r, q0, h1, h2, hR2⟩ := hpm I R J S (xs (i + 1)) hRl
  refine lv_aload_n hx hb dL_law_449 rfl (lv_at hl 1 rfl) ?_
  refine lv_aload_n hx hb dL_law_450 rfl (lv_at hl 0 rfl) ?_
  refine lv_iload hx hb dL_law_451 (lv_at hl 4 rfl) ?_
  refine lv_iconst (v := nI 1) hx hb dL_law_453 (by decide) ?_
  refine lv_iadd hx hb dL_law_454 ?_
  refine va_sld hx hb hX hbl hbA hS (ix_in 1 (by decide) hi hL).1 dL_law_455 ?_
  refine W.eq (g2 := F0 m 456 ls [.int (xs (i + 1)), .ref (a 0)]) (by rw [(ix_in 1 (by decide) hi hL).2]) ?_
  refine bVi (As := [.int (xs (i + 1))]) (rest := []) ⟨hx, hb, hml, hown, hts⟩ (k_X7_fault l G E N a I R (xs (i + 1)) r  h1) ok_X7_fault okv_X7_fault wd_2d233367 ⟨Nat.le_of_ble_eq_true rfl, Nat.le_of_ble_eq_true rfl⟩ hK hP hD hS hA (va_recv hK.1 hP (ci := 6) (q0 := 0) rfl rfl) rfl hl.1 rfl (Nat.le_of_ble_eq_true rfl) dL_law_456 ⟨by show cs + 0 ≤ 601024; omega, by show ss + 0 ≤ 7293000; omega⟩ (fun H locs a' hP hD hS => ?_)
  refine lv_aload_n hx hb dL_law_459 rfl (lv_at hl 2 rfl) ?_
  refine lv_aload_n hx hb dL_law_460 rfl (lv_at hl 0 rfl) ?_
  refine lv_iload hx hb dL_law_461 (lv_at hl 4 rfl) ?_
  refine lv_iconst (v := nI 1) hx hb dL_law_463 (by decide) ?_
  refine lv_iadd hx hb dL_law_464 ?_
  refine va_sld hx hb hX hbl hbA hS (ix_in 1 (by decide) hi hL).1 dL_law_465 ?_
  refine W.eq (g2 := F0 m 466 ls [.int (xs (i + 1)), .ref (b 0), .int r]) (by rw [(ix_in 1 (by decide) hi hL).2]) ?_
  replace hP := P_3 hP
  replace hD := D_3 hD
  refine bVi (As := [.int (xs (i + 1))]) (rest := [.int r]) ⟨hx, hb, hml, hown, hts⟩ (k_X8_fault l G E N b J S (xs (i + 1)) r q0 h2) ok_X8_fault okv_X8_fault wd_74e1702f ⟨Nat.le_of_ble_eq_true rfl, Nat.le_of_ble_eq_true rfl⟩ hK hP hD hS hA (va_recv hK.1 hP (ci := 7) (q0 := 0) rfl rfl) rfl hl.1 rfl (Nat.le_of_ble_eq_true rfl) dL_law_466 ⟨by show cs + 0 + 0 ≤ 601024; omega, by show ss + 0 + 0 ≤ 7293000; omega⟩ (fun H locs b' hP hD hS => ?_)
  replace hP := P_3 hP
  replace hD := D_3 hD
  refine lv_icmp_eq (tgt := 720) hx hb dL_law_469 (by decide) (fun _ => ?_) (fun c => absurd rfl c)
  refine W.widen (k := cs + 1) (n := ss + 6) (by show cs + 0 + 0 ≤ cs + 1; omega) (by show ss + 0 + 0 ≤ ss + 6; omega) ?_
  exact kk _ _ _ _ _ _ _ _ _ _ hR2 hP hD hS hl

set_option maxHeartbeats 4000000 in
set_option maxRecDepth 100000 in
theorem lc_mark {p : Program} {l : Launch} {e : Env} {s : State} {m : MethodId} {below : List Frame} {meth : Method} {c : Code} {G : va_G} {E : ClassId × ClassId × ClassId} {b0 L : Nat} {xs : Nat → Int32} (C : LX p s m c G E b0 L xs) (N : Nat) {Rl : (Nat → Int32) → (Nat → Nat → Int32) → (Nat → Int32) → (Nat → Nat → Int32) → Prop} (hpm : pm_mark Rl N) {a b : Nat → Nat} {I : Nat → Int32} {R : Nat → Nat → Int32} {J : Nat → Int32} {S : Nat → Nat → Int32} {ho : Nat} {f : Nat → Int64} {i : Nat} (hi : i + 3 < L) (hL : L ≤ 2051) {cs ss : Nat} (hcs : cs + 1 ≤ 601024) (hss : ss + 6 ≤ 7293000) {H : Heap} {locs : List Loc} {ls : Array Slot} (hRl : Rl I R J S) (hP : va_P G vwCl (LW E a I R b J S ho f) H) (hD : va_D (fun q : Nat => s.heap.size ≤ q) (LW E a I R b J S ho f)) (hS : va_S (fun q : Nat => s.heap.size ≤ q) s.heap H locs) (hl : lv_has ls 7 [(0, .ref b0), (1, .ref (a 0)), (2, .ref (b 0)), (3, .ref ho), (4, .int (nI i))]) (kk : (∀ (a b : Nat → Nat) (I : Nat → Int32) (R : Nat → Nat → Int32) (J : Nat → Int32) (S : Nat → Nat → Int32) (f : Nat → Int64) (H : Heap) (locs : List Loc) (ls : Array Slot), Rl I R J S → va_P G vwCl (LW E a I R b J S ho f) H → va_D (fun q : Nat => s.heap.size ≤ q) (LW E a I R b J S ho f) → va_S (fun q : Nat => s.heap.size ≤ q) s.heap H locs → lv_has ls 7 [(0, .ref b0), (1, .ref (a 0)), (2, .ref (b 0)), (3, .ref ho), (4, .int (nI i))] → W p l e room_1 s m #[Value.ref b0] below meth c H locs (cs + 1) (ss + 6) (lw_Z below #[Value.ref b0] s) (F0 m 720 ls []))) : W p l e room_1 s m #[Value.ref b0] below meth c H locs (cs) (ss) (lw_Z below #[Value.ref b0] s) (F0 m 474 ls []) := by
  obtain ⟨hx, hb, hml, hown, hts, hK, hX, hbl⟩ := C
  have hA : ∀ q : Nat, s.heap.size ≤ q → (fun q : Nat => s.heap.size ≤ q) q := fun _ h => h
  have hbA : ¬ (fun q : Nat => s.heap.size ≤ q) b0 := Nat.not_le.mpr hbl
  obtain ⟨r, o0, o1, o2, o3, o4, o5, o6, o7, o8, o9, o10, o11, o12, o13, o14, o15, o16, o17, o18, o19, o20, o21, q0, q1, q2, q3, q4, q5, q6, q7, q8, h1, h2, hR2⟩ := hpm I R J S  hRl
  refine lv_aload_n hx hb dL_law_474 rfl (lv_at hl 1 rfl) ?_
  refine bVi (As := []) (rest := []) ⟨hx, hb, hml, hown, hts⟩ (k_X7_mark l G E N a I R  r o0 o1 o2 o3 o4 o5 o6 o7 o8 o9 o10 o11 o12 o13 o14 o15 o16 o17 o18 o19 o20 o21 h1) ok_X7_mark okv_X7_mark wd_017087d8 ⟨Nat.le_of_ble_eq_true rfl, Nat.le_of_ble_eq_true rfl⟩ hK hP hD hS hA (va_recv hK.1 hP (ci := 6) (q0 := 0) rfl rfl) rfl hl.1 rfl (Nat.le_of_ble_eq_true rfl) dL_law_475 ⟨by show cs + 0 ≤ 601024; omega, by show ss + 0 ≤ 7293000; omega⟩ (fun H locs a' hP hD hS => ?_)
  refine lv_aload_n hx hb dL_law_478 rfl (lv_at hl 2 rfl) ?_
  replace hP := P_3 hP
  replace hD := D_3 hD
  refine bVi (As := []) (rest := [.int r]) ⟨hx, hb, hml, hown, hts⟩ (k_X8_mark l G E N b J S  r q0 q1 q2 q3 q4 q5 q6 q7 q8 h2) ok_X8_mark okv_X8_mark wd_4a0f7976 ⟨Nat.le_of_ble_eq_true rfl, Nat.le_of_ble_eq_true rfl⟩ hK hP hD hS hA (va_recv hK.1 hP (ci := 7) (q0 := 0) rfl rfl) rfl hl.1 rfl (Nat.le_of_ble_eq_true rfl) dL_law_479 ⟨by show cs + 0 + 0 ≤ 601024; omega, by show ss + 0 + 0 ≤ 7293000; omega⟩ (fun H locs b' hP hD hS => ?_)
  replace hP := P_3 hP
  replace hD := D_3 hD
  refine lv_icmp_eq (tgt := 720) hx hb dL_law_482 (by decide) (fun _ => ?_) (fun c => absurd rfl c)
  refine W.widen (k := cs + 1) (n := ss + 6) (by show cs + 0 + 0 ≤ cs + 1; omega) (by show ss + 0 + 0 ≤ ss + 6; omega) ?_
  exact kk _ _ _ _ _ _ _ _ _ _ hR2 hP hD hS hl

set_option maxHeartbeats 4000000 in
set_option maxRecDepth 100000 in
theorem lc_undo {p : Program} {l : Launch} {e : Env} {s : State} {m : MethodId} {below : List Frame} {meth : Method} {c : Code} {G : va_G} {E : ClassId × ClassId × ClassId} {b0 L : Nat} {xs : Nat → Int32} (C : LX p s m c G E b0 L xs) (N : Nat) {Rl : (Nat → Int32) → (Nat → Nat → Int32) → (Nat → Int32) → (Nat → Nat → Int32) → Prop} (hpm : pm_undo Rl N) {a b : Nat → Nat} {I : Nat → Int32} {R : Nat → Nat → Int32} {J : Nat → Int32} {S : Nat → Nat → Int32} {ho : Nat} {f : Nat → Int64} {i : Nat} (hi : i + 3 < L) (hL : L ≤ 2051) {cs ss : Nat} (hcs : cs + 1 ≤ 601024) (hss : ss + 6 ≤ 7293000) {H : Heap} {locs : List Loc} {ls : Array Slot} (hRl : Rl I R J S) (hP : va_P G vwCl (LW E a I R b J S ho f) H) (hD : va_D (fun q : Nat => s.heap.size ≤ q) (LW E a I R b J S ho f)) (hS : va_S (fun q : Nat => s.heap.size ≤ q) s.heap H locs) (hl : lv_has ls 7 [(0, .ref b0), (1, .ref (a 0)), (2, .ref (b 0)), (3, .ref ho), (4, .int (nI i))]) (kk : (∀ (a b : Nat → Nat) (I : Nat → Int32) (R : Nat → Nat → Int32) (J : Nat → Int32) (S : Nat → Nat → Int32) (f : Nat → Int64) (H : Heap) (locs : List Loc) (ls : Array Slot), Rl I R J S → va_P G vwCl (LW E a I R b J S ho f) H → va_D (fun q : Nat => s.heap.size ≤ q) (LW E a I R b J S ho f) → va_S (fun q : Nat => s.heap.size ≤ q) s.heap H locs → lv_has ls 7 [(0, .ref b0), (1, .ref (a 0)), (2, .ref (b 0)), (3, .ref ho), (4, .int (nI i))] → W p l e room_1 s m #[Value.ref b0] below meth c H locs (cs + 1) (ss + 6) (lw_Z below #[Value.ref b0] s) (F0 m 720 ls []))) : W p l e room_1 s m #[Value.ref b0] below meth c H locs (cs) (ss) (lw_Z below #[Value.ref b0] s) (F0 m 487 ls []) := by
  obtain ⟨hx, hb, hml, hown, hts, hK, hX, hbl⟩ := C
  have hA : ∀ q : Nat, s.heap.size ≤ q → (fun q : Nat => s.heap.size ≤ q) q := fun _ h => h
  have hbA : ¬ (fun q : Nat => s.heap.size ≤ q) b0 := Nat.not_le.mpr hbl
  obtain ⟨r, o0, o1, o2, o3, o4, o5, o6, o7, q0, q1, q2, q3, q4, q5, q6, q7, q8, h1, h2, hR2⟩ := hpm I R J S  hRl
  refine lv_aload_n hx hb dL_law_487 rfl (lv_at hl 1 rfl) ?_
  refine bVi (As := []) (rest := []) ⟨hx, hb, hml, hown, hts⟩ (k_X7_undo l G E N a I R  r o0 o1 o2 o3 o4 o5 o6 o7 h1) ok_X7_undo okv_X7_undo wd_096330eb ⟨Nat.le_of_ble_eq_true rfl, Nat.le_of_ble_eq_true rfl⟩ hK hP hD hS hA (va_recv hK.1 hP (ci := 6) (q0 := 0) rfl rfl) rfl hl.1 rfl (Nat.le_of_ble_eq_true rfl) dL_law_488 ⟨by show cs + 0 ≤ 601024; omega, by show ss + 0 ≤ 7293000; omega⟩ (fun H locs a' hP hD hS => ?_)
  refine lv_aload_n hx hb dL_law_491 rfl (lv_at hl 2 rfl) ?_
  replace hP := P_3 hP
  replace hD := D_3 hD
  refine bVi (As := []) (rest := [.int r]) ⟨hx, hb, hml, hown, hts⟩ (k_X8_undo l G E N b J S  r q0 q1 q2 q3 q4 q5 q6 q7 q8 h2) ok_X8_undo okv_X8_undo wd_c42f7ec9 ⟨Nat.le_of_ble_eq_true rfl, Nat.le_of_ble_eq_true rfl⟩ hK hP hD hS hA (va_recv hK.1 hP (ci := 7) (q0 := 0) rfl rfl) rfl hl.1 rfl (Nat.le_of_ble_eq_true rfl) dL_law_492 ⟨by show cs + 0 + 0 ≤ 601024; omega, by show ss + 0 + 0 ≤ 7293000; omega⟩ (fun H locs b' hP hD hS => ?_)
  replace hP := P_3 hP
  replace hD := D_3 hD
  refine lv_icmp_eq (tgt := 720) hx hb dL_law_495 (by decide) (fun _ => ?_) (fun c => absurd rfl c)
  refine W.widen (k := cs + 1) (n := ss + 6) (by show cs + 0 + 0 ≤ cs + 1; omega) (by show ss + 0 + 0 ≤ ss + 6; omega) ?_
  exact kk _ _ _ _ _ _ _ _ _ _ hR2 hP hD hS hl

set_option maxHeartbeats 4000000 in
set_option maxRecDepth 100000 in
theorem lc_restart {p : Program} {l : Launch} {e : Env} {s : State} {m : MethodId} {below : List Frame} {meth : Method} {c : Code} {G : va_G} {E : ClassId × ClassId × ClassId} {b0 L : Nat} {xs : Nat → Int32} (C : LX p s m c G E b0 L xs) (N : Nat) {Rl : (Nat → Int32) → (Nat → Nat → Int32) → (Nat → Int32) → (Nat → Nat → Int32) → Prop} (hpm : pm_restart Rl N) {a b : Nat → Nat} {I : Nat → Int32} {R : Nat → Nat → Int32} {J : Nat → Int32} {S : Nat → Nat → Int32} {ho : Nat} {f : Nat → Int64} {i : Nat} (hi : i + 3 < L) (hL : L ≤ 2051) {cs ss : Nat} (hcs : cs + 1 ≤ 601024) (hss : ss + 6 ≤ 7293000) {H : Heap} {locs : List Loc} {ls : Array Slot} (hRl : Rl I R J S) (hP : va_P G vwCl (LW E a I R b J S ho f) H) (hD : va_D (fun q : Nat => s.heap.size ≤ q) (LW E a I R b J S ho f)) (hS : va_S (fun q : Nat => s.heap.size ≤ q) s.heap H locs) (hl : lv_has ls 7 [(0, .ref b0), (1, .ref (a 0)), (2, .ref (b 0)), (3, .ref ho), (4, .int (nI i))]) (kk : (∀ (a b : Nat → Nat) (I : Nat → Int32) (R : Nat → Nat → Int32) (J : Nat → Int32) (S : Nat → Nat → Int32) (f : Nat → Int64) (H : Heap) (locs : List Loc) (ls : Array Slot), Rl I R J S → va_P G vwCl (LW E a I R b J S ho f) H → va_D (fun q : Nat => s.heap.size ≤ q) (LW E a I R b J S ho f) → va_S (fun q : Nat => s.heap.size ≤ q) s.heap H locs → lv_has ls 7 [(0, .ref b0), (1, .ref (a 0)), (2, .ref (b 0)), (3, .ref ho), (4, .int (nI i))] → W p l e room_1 s m #[Value.ref b0] below meth c H locs (cs + 1) (ss + 6) (lw_Z below #[Value.ref b0] s) (F0 m 720 ls []))) : W p l e room_1 s m #[Value.ref b0] below meth c H locs (cs) (ss) (lw_Z below #[Value.ref b0] s) (F0 m 500 ls []) := by
  obtain ⟨hx, hb, hml, hown, hts, hK, hX, hbl⟩ := C
  have hA : ∀ q : Nat, s.heap.size ≤ q → (fun q : Nat => s.heap.size ≤ q) q := fun _ h => h
  have hbA : ¬ (fun q : Nat => s.heap.size ≤ q) b0 := Nat.not_le.mpr hbl
  obtain ⟨r, o0, o1, o2, o3, o4, o5, o6, q0, q1, q2, q3, q4, h1, h2, hR2⟩ := hpm I R J S  hRl
  refine lv_aload_n hx hb dL_law_500 rfl (lv_at hl 1 rfl) ?_
  refine bVi (As := []) (rest := []) ⟨hx, hb, hml, hown, hts⟩ (k_X7_restart l G E N a I R  r o0 o1 o2 o3 o4 o5 o6 h1) ok_X7_restart okv_X7_restart wd_c6a7d207 ⟨Nat.le_of_ble_eq_true rfl, Nat.le_of_ble_eq_true rfl⟩ hK hP hD hS hA (va_recv hK.1 hP (ci := 6) (q0 := 0) rfl rfl) rfl hl.1 rfl (Nat.le_of_ble_eq_true rfl) dL_law_501 ⟨by show cs + 0 ≤ 601024; omega, by show ss + 0 ≤ 7293000; omega⟩ (fun H locs a' hP hD hS => ?_)
  refine lv_aload_n hx hb dL_law_504 rfl (lv_at hl 2 rfl) ?_
  replace hP := P_3 hP
  replace hD := D_3 hD
  refine bVi (As := []) (rest := [.int r]) ⟨hx, hb, hml, hown, hts⟩ (k_X8_restart l G E N b J S  r q0 q1 q2 q3 q4 h2) ok_X8_restart okv_X8_restart wd_e693a14e ⟨Nat.le_of_ble_eq_true rfl, Nat.le_of_ble_eq_true rfl⟩ hK hP hD hS hA (va_recv hK.1 hP (ci := 7) (q0 := 0) rfl rfl) rfl hl.1 rfl (Nat.le_of_ble_eq_true rfl) dL_law_505 ⟨by show cs + 0 + 0 ≤ 601024; omega, by show ss + 0 + 0 ≤ 7293000; omega⟩ (fun H locs b' hP hD hS => ?_)
  replace hP := P_3 hP
  replace hD := D_3 hD
  refine lv_icmp_eq (tgt := 720) hx hb dL_law_508 (by decide) (fun _ => ?_) (fun c => absurd rfl c)
  refine W.widen (k := cs + 1) (n := ss + 6) (by show cs + 0 + 0 ≤ cs + 1; omega) (by show ss + 0 + 0 ≤ ss + 6; omega) ?_
  exact kk _ _ _ _ _ _ _ _ _ _ hR2 hP hD hS hl

set_option maxHeartbeats 4000000 in
set_option maxRecDepth 100000 in
theorem lc_at {p : Program} {l : Launch} {e : Env} {s : State} {m : MethodId} {below : List Frame} {meth : Method} {c : Code} {G : va_G} {E : ClassId × ClassId × ClassId} {b0 L : Nat} {xs : Nat → Int32} (C : LX p s m c G E b0 L xs) (N : Nat) {Rl : (Nat → Int32) → (Nat → Nat → Int32) → (Nat → Int32) → (Nat → Nat → Int32) → Prop} (hpm : pm_at Rl N) {a b : Nat → Nat} {I : Nat → Int32} {R : Nat → Nat → Int32} {J : Nat → Int32} {S : Nat → Nat → Int32} {ho : Nat} {f : Nat → Int64} {i : Nat} (hi : i + 3 < L) (hL : L ≤ 2051) {cs ss : Nat} (hcs : cs + 1 ≤ 601024) (hss : ss + 6 ≤ 7293000) {H : Heap} {locs : List Loc} {ls : Array Slot} (hRl : Rl I R J S) (hP : va_P G vwCl (LW E a I R b J S ho f) H) (hD : va_D (fun q : Nat => s.heap.size ≤ q) (LW E a I R b J S ho f)) (hS : va_S (fun q : Nat => s.heap.size ≤ q) s.heap H locs) (hl : lv_has ls 7 [(0, .ref b0), (1, .ref (a 0)), (2, .ref (b 0)), (3, .ref ho), (4, .int (nI i))]) (kk : (∀ (a b : Nat → Nat) (I : Nat → Int32) (R : Nat → Nat → Int32) (J : Nat → Int32) (S : Nat → Nat → Int32) (f : Nat → Int64) (H : Heap) (locs : List Loc) (ls : Array Slot), Rl I R J S → va_P G vwCl (LW E a I R b J S ho f) H → va_D (fun q : Nat => s.heap.size ≤ q) (LW E a I R b J S ho f) → va_S (fun q : Nat => s.heap.size ≤ q) s.heap H locs → lv_has ls 7 [(0, .ref b0), (1, .ref (a 0)), (2, .ref (b 0)), (3, .ref ho), (4, .int (nI i))] → W p l e room_1 s m #[Value.ref b0] below meth c H locs (cs + 1) (ss + 6) (lw_Z below #[Value.ref b0] s) (F0 m 720 ls []))) : W p l e room_1 s m #[Value.ref b0] below meth c H locs (cs) (ss) (lw_Z below #[Value.ref b0] s) (F0 m 513 ls []) := by
  obtain ⟨hx, hb, hml, hown, hts, hK, hX, hbl⟩ := C
  have hA : ∀ q : Nat, s.heap.size ≤ q → (fun q : Nat => s.heap.size ≤ q) q := fun _ h => h
  have hbA : ¬ (fun q : Nat => s.heap.size ≤ q) b0 := Nat.not_le.mpr hbl
  obtain ⟨r, q0, h1, h2, hR2⟩ := hpm I R J S (xs (i + 1)) hRl
  refine lv_aload_n hx hb dL_law_513 rfl (lv_at hl 1 rfl) ?_
  refine lv_aload_n hx hb dL_law_514 rfl (lv_at hl 0 rfl) ?_
  refine lv_iload hx hb dL_law_515 (lv_at hl 4 rfl) ?_
  refine lv_iconst (v := nI 1) hx hb dL_law_517 (by decide) ?_
  refine lv_iadd hx hb dL_law_518 ?_
  refine va_sld hx hb hX hbl hbA hS (ix_in 1 (by decide) hi hL).1 dL_law_519 ?_
  refine W.eq (g2 := F0 m 520 ls [.int (xs (i + 1)), .ref (a 0)]) (by rw [(ix_in 1 (by decide) hi hL).2]) ?_
  refine bVi (As := [.int (xs (i + 1))]) (rest := []) ⟨hx, hb, hml, hown, hts⟩ (k_X7_at l G E N a I R (xs (i + 1)) r  h1) ok_X7_at okv_X7_at wd_a72c0748 ⟨Nat.le_of_ble_eq_true rfl, Nat.le_of_ble_eq_true rfl⟩ hK hP hD hS hA (va_recv hK.1 hP (ci := 6) (q0 := 0) rfl rfl) rfl hl.1 rfl (Nat.le_of_ble_eq_true rfl) dL_law_520 ⟨by show cs + 0 ≤ 601024; omega, by show ss + 0 ≤ 7293000; omega⟩ (fun H locs a' hP hD hS => ?_)
  refine lv_aload_n hx hb dL_law_523 rfl (lv_at hl 2 rfl) ?_
  refine lv_aload_n hx hb dL_law_524 rfl (lv_at hl 0 rfl) ?_
  refine lv_iload hx hb dL_law_525 (lv_at hl 4 rfl) ?_
  refine lv_iconst (v := nI 1) hx hb dL_law_527 (by decide) ?_
  refine lv_iadd hx hb dL_law_528 ?_
  refine va_sld hx hb hX hbl hbA hS (ix_in 1 (by decide) hi hL).1 dL_law_529 ?_
  refine W.eq (g2 := F0 m 530 ls [.int (xs (i + 1)), .ref (b 0), .int r]) (by rw [(ix_in 1 (by decide) hi hL).2]) ?_
  replace hP := P_3 hP
  replace hD := D_3 hD
  refine bVi (As := [.int (xs (i + 1))]) (rest := [.int r]) ⟨hx, hb, hml, hown, hts⟩ (k_X8_at l G E N b J S (xs (i + 1)) r q0 h2) ok_X8_at okv_X8_at wd_de258017 ⟨Nat.le_of_ble_eq_true rfl, Nat.le_of_ble_eq_true rfl⟩ hK hP hD hS hA (va_recv hK.1 hP (ci := 7) (q0 := 0) rfl rfl) rfl hl.1 rfl (Nat.le_of_ble_eq_true rfl) dL_law_530 ⟨by show cs + 0 + 0 ≤ 601024; omega, by show ss + 0 + 0 ≤ 7293000; omega⟩ (fun H locs b' hP hD hS => ?_)
  replace hP := P_3 hP
  replace hD := D_3 hD
  refine lv_icmp_eq (tgt := 720) hx hb dL_law_533 (by decide) (fun _ => ?_) (fun c => absurd rfl c)
  refine W.widen (k := cs + 1) (n := ss + 6) (by show cs + 0 + 0 ≤ cs + 1; omega) (by show ss + 0 + 0 ≤ ss + 6; omega) ?_
  exact kk _ _ _ _ _ _ _ _ _ _ hR2 hP hD hS hl

set_option maxHeartbeats 4000000 in
set_option maxRecDepth 100000 in
theorem lc_alter {p : Program} {l : Launch} {e : Env} {s : State} {m : MethodId} {below : List Frame} {meth : Method} {c : Code} {G : va_G} {E : ClassId × ClassId × ClassId} {b0 L : Nat} {xs : Nat → Int32} (C : LX p s m c G E b0 L xs) (N : Nat) {Rl : (Nat → Int32) → (Nat → Nat → Int32) → (Nat → Int32) → (Nat → Nat → Int32) → Prop} (hpm : pm_alter Rl N) {a b : Nat → Nat} {I : Nat → Int32} {R : Nat → Nat → Int32} {J : Nat → Int32} {S : Nat → Nat → Int32} {ho : Nat} {f : Nat → Int64} {i : Nat} (hi : i + 3 < L) (hL : L ≤ 2051) {cs ss : Nat} (hcs : cs + 1 ≤ 601024) (hss : ss + 6 ≤ 7293000) {H : Heap} {locs : List Loc} {ls : Array Slot} (hRl : Rl I R J S) (hP : va_P G vwCl (LW E a I R b J S ho f) H) (hD : va_D (fun q : Nat => s.heap.size ≤ q) (LW E a I R b J S ho f)) (hS : va_S (fun q : Nat => s.heap.size ≤ q) s.heap H locs) (hl : lv_has ls 7 [(0, .ref b0), (1, .ref (a 0)), (2, .ref (b 0)), (3, .ref ho), (4, .int (nI i))]) (kk : (∀ (a b : Nat → Nat) (I : Nat → Int32) (R : Nat → Nat → Int32) (J : Nat → Int32) (S : Nat → Nat → Int32) (f : Nat → Int64) (H : Heap) (locs : List Loc) (ls : Array Slot), Rl I R J S → va_P G vwCl (LW E a I R b J S ho f) H → va_D (fun q : Nat => s.heap.size ≤ q) (LW E a I R b J S ho f) → va_S (fun q : Nat => s.heap.size ≤ q) s.heap H locs → lv_has ls 7 [(0, .ref b0), (1, .ref (a 0)), (2, .ref (b 0)), (3, .ref ho), (4, .int (nI i))] → W p l e room_1 s m #[Value.ref b0] below meth c H locs (cs + 1) (ss + 6) (lw_Z below #[Value.ref b0] s) (F0 m 720 ls []))) : W p l e room_1 s m #[Value.ref b0] below meth c H locs (cs) (ss) (lw_Z below #[Value.ref b0] s) (F0 m 538 ls []) := by
  obtain ⟨hx, hb, hml, hown, hts, hK, hX, hbl⟩ := C
  have hA : ∀ q : Nat, s.heap.size ≤ q → (fun q : Nat => s.heap.size ≤ q) q := fun _ h => h
  have hbA : ¬ (fun q : Nat => s.heap.size ≤ q) b0 := Nat.not_le.mpr hbl
  obtain ⟨r, o0, q0, q1, h1, h2, hR2⟩ := hpm I R J S (xs (i + 1)) (xs (i + 2)) hRl
  refine lv_aload_n hx hb dL_law_538 rfl (lv_at hl 1 rfl) ?_
  refine lv_aload_n hx hb dL_law_539 rfl (lv_at hl 0 rfl) ?_
  refine lv_iload hx hb dL_law_540 (lv_at hl 4 rfl) ?_
  refine lv_iconst (v := nI 1) hx hb dL_law_542 (by decide) ?_
  refine lv_iadd hx hb dL_law_543 ?_
  refine va_sld hx hb hX hbl hbA hS (ix_in 1 (by decide) hi hL).1 dL_law_544 ?_
  refine W.eq (g2 := F0 m 545 ls [.int (xs (i + 1)), .ref (a 0)]) (by rw [(ix_in 1 (by decide) hi hL).2]) ?_
  refine lv_aload_n hx hb dL_law_545 rfl (lv_at hl 0 rfl) ?_
  refine lv_iload hx hb dL_law_546 (lv_at hl 4 rfl) ?_
  refine lv_iconst (v := nI 2) hx hb dL_law_548 (by decide) ?_
  refine lv_iadd hx hb dL_law_549 ?_
  refine va_sld hx hb hX hbl hbA hS (ix_in 2 (by decide) hi hL).1 dL_law_550 ?_
  refine W.eq (g2 := F0 m 551 ls [.int (xs (i + 2)), .int (xs (i + 1)), .ref (a 0)]) (by rw [(ix_in 2 (by decide) hi hL).2]) ?_
  refine bVi (As := [.int (xs (i + 1)), .int (xs (i + 2))]) (rest := []) ⟨hx, hb, hml, hown, hts⟩ (k_X7_alter l G E N a I R (xs (i + 1)) (xs (i + 2)) r o0 h1) ok_X7_alter okv_X7_alter wd_cd59f113 ⟨Nat.le_of_ble_eq_true rfl, Nat.le_of_ble_eq_true rfl⟩ hK hP hD hS hA (va_recv hK.1 hP (ci := 6) (q0 := 0) rfl rfl) rfl hl.1 rfl (Nat.le_of_ble_eq_true rfl) dL_law_551 ⟨by show cs + 0 ≤ 601024; omega, by show ss + 0 ≤ 7293000; omega⟩ (fun H locs a' hP hD hS => ?_)
  refine lv_aload_n hx hb dL_law_554 rfl (lv_at hl 2 rfl) ?_
  refine lv_aload_n hx hb dL_law_555 rfl (lv_at hl 0 rfl) ?_
  refine lv_iload hx hb dL_law_556 (lv_at hl 4 rfl) ?_
  refine lv_iconst (v := nI 1) hx hb dL_law_558 (by decide) ?_
  refine lv_iadd hx hb dL_law_559 ?_
  refine va_sld hx hb hX hbl hbA hS (ix_in 1 (by decide) hi hL).1 dL_law_560 ?_
  refine W.eq (g2 := F0 m 561 ls [.int (xs (i + 1)), .ref (b 0), .int r]) (by rw [(ix_in 1 (by decide) hi hL).2]) ?_
  refine lv_aload_n hx hb dL_law_561 rfl (lv_at hl 0 rfl) ?_
  refine lv_iload hx hb dL_law_562 (lv_at hl 4 rfl) ?_
  refine lv_iconst (v := nI 2) hx hb dL_law_564 (by decide) ?_
  refine lv_iadd hx hb dL_law_565 ?_
  refine va_sld hx hb hX hbl hbA hS (ix_in 2 (by decide) hi hL).1 dL_law_566 ?_
  refine W.eq (g2 := F0 m 567 ls [.int (xs (i + 2)), .int (xs (i + 1)), .ref (b 0), .int r]) (by rw [(ix_in 2 (by decide) hi hL).2]) ?_
  replace hP := P_3 hP
  replace hD := D_3 hD
  refine bVi (As := [.int (xs (i + 1)), .int (xs (i + 2))]) (rest := [.int r]) ⟨hx, hb, hml, hown, hts⟩ (k_X8_alter l G E N b J S (xs (i + 1)) (xs (i + 2)) r q0 q1 h2) ok_X8_alter okv_X8_alter wd_bd2e3f93 ⟨Nat.le_of_ble_eq_true rfl, Nat.le_of_ble_eq_true rfl⟩ hK hP hD hS hA (va_recv hK.1 hP (ci := 7) (q0 := 0) rfl rfl) rfl hl.1 rfl (Nat.le_of_ble_eq_true rfl) dL_law_567 ⟨by show cs + 0 + 0 ≤ 601024; omega, by show ss + 0 + 0 ≤ 7293000; omega⟩ (fun H locs b' hP hD hS => ?_)
  replace hP := P_3 hP
  replace hD := D_3 hD
  refine lv_icmp_eq (tgt := 720) hx hb dL_law_570 (by decide) (fun _ => ?_) (fun c => absurd rfl c)
  refine W.widen (k := cs + 1) (n := ss + 6) (by show cs + 0 + 0 ≤ cs + 1; omega) (by show ss + 0 + 0 ≤ ss + 6; omega) ?_
  exact kk _ _ _ _ _ _ _ _ _ _ hR2 hP hD hS hl

set_option maxHeartbeats 4000000 in
set_option maxRecDepth 100000 in
theorem lc_cut {p : Program} {l : Launch} {e : Env} {s : State} {m : MethodId} {below : List Frame} {meth : Method} {c : Code} {G : va_G} {E : ClassId × ClassId × ClassId} {b0 L : Nat} {xs : Nat → Int32} (C : LX p s m c G E b0 L xs) (N : Nat) {Rl : (Nat → Int32) → (Nat → Nat → Int32) → (Nat → Int32) → (Nat → Nat → Int32) → Prop} (hpm : pm_cut Rl N) {a b : Nat → Nat} {I : Nat → Int32} {R : Nat → Nat → Int32} {J : Nat → Int32} {S : Nat → Nat → Int32} {ho : Nat} {f : Nat → Int64} {i : Nat} (hi : i + 3 < L) (hL : L ≤ 2051) {cs ss : Nat} (hcs : cs + 1 ≤ 601024) (hss : ss + 6 ≤ 7293000) {H : Heap} {locs : List Loc} {ls : Array Slot} (hRl : Rl I R J S) (hP : va_P G vwCl (LW E a I R b J S ho f) H) (hD : va_D (fun q : Nat => s.heap.size ≤ q) (LW E a I R b J S ho f)) (hS : va_S (fun q : Nat => s.heap.size ≤ q) s.heap H locs) (hl : lv_has ls 7 [(0, .ref b0), (1, .ref (a 0)), (2, .ref (b 0)), (3, .ref ho), (4, .int (nI i))]) (kk : (∀ (a b : Nat → Nat) (I : Nat → Int32) (R : Nat → Nat → Int32) (J : Nat → Int32) (S : Nat → Nat → Int32) (f : Nat → Int64) (H : Heap) (locs : List Loc) (ls : Array Slot), Rl I R J S → va_P G vwCl (LW E a I R b J S ho f) H → va_D (fun q : Nat => s.heap.size ≤ q) (LW E a I R b J S ho f) → va_S (fun q : Nat => s.heap.size ≤ q) s.heap H locs → lv_has ls 7 [(0, .ref b0), (1, .ref (a 0)), (2, .ref (b 0)), (3, .ref ho), (4, .int (nI i))] → W p l e room_1 s m #[Value.ref b0] below meth c H locs (cs + 1) (ss + 6) (lw_Z below #[Value.ref b0] s) (F0 m 720 ls []))) : W p l e room_1 s m #[Value.ref b0] below meth c H locs (cs) (ss) (lw_Z below #[Value.ref b0] s) (F0 m 575 ls []) := by
  obtain ⟨hx, hb, hml, hown, hts, hK, hX, hbl⟩ := C
  have hA : ∀ q : Nat, s.heap.size ≤ q → (fun q : Nat => s.heap.size ≤ q) q := fun _ h => h
  have hbA : ¬ (fun q : Nat => s.heap.size ≤ q) b0 := Nat.not_le.mpr hbl
  obtain ⟨r, o0, q0, q1, h1, h2, hR2⟩ := hpm I R J S (xs (i + 1)) hRl
  refine lv_aload_n hx hb dL_law_575 rfl (lv_at hl 1 rfl) ?_
  refine lv_aload_n hx hb dL_law_576 rfl (lv_at hl 0 rfl) ?_
  refine lv_iload hx hb dL_law_577 (lv_at hl 4 rfl) ?_
  refine lv_iconst (v := nI 1) hx hb dL_law_579 (by decide) ?_
  refine lv_iadd hx hb dL_law_580 ?_
  refine va_sld hx hb hX hbl hbA hS (ix_in 1 (by decide) hi hL).1 dL_law_581 ?_
  refine W.eq (g2 := F0 m 582 ls [.int (xs (i + 1)), .ref (a 0)]) (by rw [(ix_in 1 (by decide) hi hL).2]) ?_
  refine bVi (As := [.int (xs (i + 1))]) (rest := []) ⟨hx, hb, hml, hown, hts⟩ (k_X7_cut l G E N a I R (xs (i + 1)) r o0 h1) ok_X7_cut okv_X7_cut wd_48ebaccd ⟨Nat.le_of_ble_eq_true rfl, Nat.le_of_ble_eq_true rfl⟩ hK hP hD hS hA (va_recv hK.1 hP (ci := 6) (q0 := 0) rfl rfl) rfl hl.1 rfl (Nat.le_of_ble_eq_true rfl) dL_law_582 ⟨by show cs + 0 ≤ 601024; omega, by show ss + 0 ≤ 7293000; omega⟩ (fun H locs a' hP hD hS => ?_)
  refine lv_aload_n hx hb dL_law_585 rfl (lv_at hl 2 rfl) ?_
  refine lv_aload_n hx hb dL_law_586 rfl (lv_at hl 0 rfl) ?_
  refine lv_iload hx hb dL_law_587 (lv_at hl 4 rfl) ?_
  refine lv_iconst (v := nI 1) hx hb dL_law_589 (by decide) ?_
  refine lv_iadd hx hb dL_law_590 ?_
  refine va_sld hx hb hX hbl hbA hS (ix_in 1 (by decide) hi hL).1 dL_law_591 ?_
  refine W.eq (g2 := F0 m 592 ls [.int (xs (i + 1)), .ref (b 0), .int r]) (by rw [(ix_in 1 (by decide) hi hL).2]) ?_
  replace hP := P_3 hP
  replace hD := D_3 hD
  refine bVi (As := [.int (xs (i + 1))]) (rest := [.int r]) ⟨hx, hb, hml, hown, hts⟩ (k_X8_cut l G E N b J S (xs (i + 1)) r q0 q1 h2) ok_X8_cut okv_X8_cut wd_b0633fde ⟨Nat.le_of_ble_eq_true rfl, Nat.le_of_ble_eq_true rfl⟩ hK hP hD hS hA (va_recv hK.1 hP (ci := 7) (q0 := 0) rfl rfl) rfl hl.1 rfl (Nat.le_of_ble_eq_true rfl) dL_law_592 ⟨by show cs + 0 + 0 ≤ 601024; omega, by show ss + 0 + 0 ≤ 7293000; omega⟩ (fun H locs b' hP hD hS => ?_)
  replace hP := P_3 hP
  replace hD := D_3 hD
  refine lv_icmp_eq (tgt := 720) hx hb dL_law_595 (by decide) (fun _ => ?_) (fun c => absurd rfl c)
  refine W.widen (k := cs + 1) (n := ss + 6) (by show cs + 0 + 0 ≤ cs + 1; omega) (by show ss + 0 + 0 ≤ ss + 6; omega) ?_
  exact kk _ _ _ _ _ _ _ _ _ _ hR2 hP hD hS hl

set_option maxHeartbeats 4000000 in
set_option maxRecDepth 100000 in
theorem lc_more {p : Program} {l : Launch} {e : Env} {s : State} {m : MethodId} {below : List Frame} {meth : Method} {c : Code} {G : va_G} {E : ClassId × ClassId × ClassId} {b0 L : Nat} {xs : Nat → Int32} (C : LX p s m c G E b0 L xs) (N : Nat) {Rl : (Nat → Int32) → (Nat → Nat → Int32) → (Nat → Int32) → (Nat → Nat → Int32) → Prop} (hpm : pm_more Rl N) {a b : Nat → Nat} {I : Nat → Int32} {R : Nat → Nat → Int32} {J : Nat → Int32} {S : Nat → Nat → Int32} {ho : Nat} {f : Nat → Int64} {i : Nat} (hi : i + 3 < L) (hL : L ≤ 2051) {cs ss : Nat} (hcs : cs + 1 ≤ 601024) (hss : ss + 6 ≤ 7293000) {H : Heap} {locs : List Loc} {ls : Array Slot} (hRl : Rl I R J S) (hP : va_P G vwCl (LW E a I R b J S ho f) H) (hD : va_D (fun q : Nat => s.heap.size ≤ q) (LW E a I R b J S ho f)) (hS : va_S (fun q : Nat => s.heap.size ≤ q) s.heap H locs) (hl : lv_has ls 7 [(0, .ref b0), (1, .ref (a 0)), (2, .ref (b 0)), (3, .ref ho), (4, .int (nI i))]) (kk : (∀ (a b : Nat → Nat) (I : Nat → Int32) (R : Nat → Nat → Int32) (J : Nat → Int32) (S : Nat → Nat → Int32) (f : Nat → Int64) (H : Heap) (locs : List Loc) (ls : Array Slot), Rl I R J S → va_P G vwCl (LW E a I R b J S ho f) H → va_D (fun q : Nat => s.heap.size ≤ q) (LW E a I R b J S ho f) → va_S (fun q : Nat => s.heap.size ≤ q) s.heap H locs → lv_has ls 7 [(0, .ref b0), (1, .ref (a 0)), (2, .ref (b 0)), (3, .ref ho), (4, .int (nI i))] → W p l e room_1 s m #[Value.ref b0] below meth c H locs (cs + 1) (ss + 6) (lw_Z below #[Value.ref b0] s) (F0 m 720 ls []))) : W p l e room_1 s m #[Value.ref b0] below meth c H locs (cs) (ss) (lw_Z below #[Value.ref b0] s) (F0 m 600 ls []) := by
  obtain ⟨hx, hb, hml, hown, hts, hK, hX, hbl⟩ := C
  have hA : ∀ q : Nat, s.heap.size ≤ q → (fun q : Nat => s.heap.size ≤ q) q := fun _ h => h
  have hbA : ¬ (fun q : Nat => s.heap.size ≤ q) b0 := Nat.not_le.mpr hbl
  obtain ⟨r, o0, o1, o2, q0, q1, q2, h1, h2, hR2⟩ := hpm I R J S (((xs (i + 1)).toInt64 <<< ((32 : Int32).toInt64 &&& 63)) ||| ((xs (i + 2)).toInt64 &&& 4294967295)) (xs (i + 3)) hRl
  refine lv_aload_n hx hb dL_law_600 rfl (lv_at hl 1 rfl) ?_
  refine lv_aload_n hx hb dL_law_601 rfl (lv_at hl 0 rfl) ?_
  refine lv_iload hx hb dL_law_602 (lv_at hl 4 rfl) ?_
  refine lv_iconst (v := nI 1) hx hb dL_law_604 (by decide) ?_
  refine lv_iadd hx hb dL_law_605 ?_
  refine va_sld hx hb hX hbl hbA hS (ix_in 1 (by decide) hi hL).1 dL_law_606 ?_
  refine W.eq (g2 := F0 m 607 ls [.int (xs (i + 1)), .ref (a 0)]) (by rw [(ix_in 1 (by decide) hi hL).2]) ?_
  refine lv_i2l hx hb dL_law_607 rfl ?_
  refine lv_bipush (v := 32) hx hb dL_law_608 (by decide) ?_
  refine lv_lshl (v := ((xs (i + 1)).toInt64) <<< ((32 : Int32).toInt64 &&& 63)) hx hb dL_law_610 rfl ?_
  refine lv_aload_n hx hb dL_law_611 rfl (lv_at hl 0 rfl) ?_
  refine lv_iload hx hb dL_law_612 (lv_at hl 4 rfl) ?_
  refine lv_iconst (v := nI 2) hx hb dL_law_614 (by decide) ?_
  refine lv_iadd hx hb dL_law_615 ?_
  refine va_sld hx hb hX hbl hbA hS (ix_in 2 (by decide) hi hL).1 dL_law_616 ?_
  refine W.eq (g2 := F0 m 617 ls [.int (xs (i + 2)), .long (((xs (i + 1)).toInt64) <<< ((32 : Int32).toInt64 &&& 63)), .ref (a 0)]) (by rw [(ix_in 2 (by decide) hi hL).2]) ?_
  refine lv_i2l hx hb dL_law_617 rfl ?_
  refine lv_ldc2 hx hb hown (hts _ wd_1000dc45) dL_law_618 ?_
  refine lv_land hx hb dL_law_621 ?_
  refine lv_lor hx hb dL_law_622 ?_
  refine lv_aload_n hx hb dL_law_623 rfl (lv_at hl 0 rfl) ?_
  refine lv_iload hx hb dL_law_624 (lv_at hl 4 rfl) ?_
  refine lv_iconst (v := nI 3) hx hb dL_law_626 (by decide) ?_
  refine lv_iadd hx hb dL_law_627 ?_
  refine va_sld hx hb hX hbl hbA hS (ix_in 3 (by decide) hi hL).1 dL_law_628 ?_
  refine W.eq (g2 := F0 m 629 ls [.int (xs (i + 3)), .long ((((xs (i + 1)).toInt64) <<< ((32 : Int32).toInt64 &&& 63)) ||| (((xs (i + 2)).toInt64) &&& (4294967295 : Int64))), .ref (a 0)]) (by rw [(ix_in 3 (by decide) hi hL).2]) ?_
  refine bVi (As := [.long ((((xs (i + 1)).toInt64) <<< ((32 : Int32).toInt64 &&& 63)) ||| (((xs (i + 2)).toInt64) &&& (4294967295 : Int64))), .int (xs (i + 3))]) (rest := []) ⟨hx, hb, hml, hown, hts⟩ (k_X7_more l G E N a I R (((xs (i + 1)).toInt64 <<< ((32 : Int32).toInt64 &&& 63)) ||| ((xs (i + 2)).toInt64 &&& 4294967295)) (xs (i + 3)) r o0 o1 o2 h1) ok_X7_more okv_X7_more wd_70519895 ⟨Nat.le_of_ble_eq_true rfl, Nat.le_of_ble_eq_true rfl⟩ hK hP hD hS hA (va_recv hK.1 hP (ci := 6) (q0 := 0) rfl rfl) rfl hl.1 rfl (Nat.le_of_ble_eq_true rfl) dL_law_629 ⟨by show cs + 0 ≤ 601024; omega, by show ss + 0 ≤ 7293000; omega⟩ (fun H locs a' hP hD hS => ?_)
  refine lv_aload_n hx hb dL_law_632 rfl (lv_at hl 2 rfl) ?_
  refine lv_aload_n hx hb dL_law_633 rfl (lv_at hl 0 rfl) ?_
  refine lv_iload hx hb dL_law_634 (lv_at hl 4 rfl) ?_
  refine lv_iconst (v := nI 1) hx hb dL_law_636 (by decide) ?_
  refine lv_iadd hx hb dL_law_637 ?_
  refine va_sld hx hb hX hbl hbA hS (ix_in 1 (by decide) hi hL).1 dL_law_638 ?_
  refine W.eq (g2 := F0 m 639 ls [.int (xs (i + 1)), .ref (b 0), .int r]) (by rw [(ix_in 1 (by decide) hi hL).2]) ?_
  refine lv_i2l hx hb dL_law_639 rfl ?_
  refine lv_bipush (v := 32) hx hb dL_law_640 (by decide) ?_
  refine lv_lshl (v := ((xs (i + 1)).toInt64) <<< ((32 : Int32).toInt64 &&& 63)) hx hb dL_law_642 rfl ?_
  refine lv_aload_n hx hb dL_law_643 rfl (lv_at hl 0 rfl) ?_
  refine lv_iload hx hb dL_law_644 (lv_at hl 4 rfl) ?_
  refine lv_iconst (v := nI 2) hx hb dL_law_646 (by decide) ?_
  refine lv_iadd hx hb dL_law_647 ?_
  refine va_sld hx hb hX hbl hbA hS (ix_in 2 (by decide) hi hL).1 dL_law_648 ?_
  refine W.eq (g2 := F0 m 649 ls [.int (xs (i + 2)), .long (((xs (i + 1)).toInt64) <<< ((32 : Int32).toInt64 &&& 63)), .ref (b 0), .int r]) (by rw [(ix_in 2 (by decide) hi hL).2]) ?_
  refine lv_i2l hx hb dL_law_649 rfl ?_
  refine lv_ldc2 hx hb hown (hts _ wd_1000dc45) dL_law_650 ?_
  refine lv_land hx hb dL_law_653 ?_
  refine lv_lor hx hb dL_law_654 ?_
  refine lv_aload_n hx hb dL_law_655 rfl (lv_at hl 0 rfl) ?_
  refine lv_iload hx hb dL_law_656 (lv_at hl 4 rfl) ?_
  refine lv_iconst (v := nI 3) hx hb dL_law_658 (by decide) ?_
  refine lv_iadd hx hb dL_law_659 ?_
  refine va_sld hx hb hX hbl hbA hS (ix_in 3 (by decide) hi hL).1 dL_law_660 ?_
  refine W.eq (g2 := F0 m 661 ls [.int (xs (i + 3)), .long ((((xs (i + 1)).toInt64) <<< ((32 : Int32).toInt64 &&& 63)) ||| (((xs (i + 2)).toInt64) &&& (4294967295 : Int64))), .ref (b 0), .int r]) (by rw [(ix_in 3 (by decide) hi hL).2]) ?_
  replace hP := P_3 hP
  replace hD := D_3 hD
  refine bVi (As := [.long ((((xs (i + 1)).toInt64) <<< ((32 : Int32).toInt64 &&& 63)) ||| (((xs (i + 2)).toInt64) &&& (4294967295 : Int64))), .int (xs (i + 3))]) (rest := [.int r]) ⟨hx, hb, hml, hown, hts⟩ (k_X8_more l G E N b J S (((xs (i + 1)).toInt64 <<< ((32 : Int32).toInt64 &&& 63)) ||| ((xs (i + 2)).toInt64 &&& 4294967295)) (xs (i + 3)) r q0 q1 q2 h2) ok_X8_more okv_X8_more wd_87b4a8fc ⟨Nat.le_of_ble_eq_true rfl, Nat.le_of_ble_eq_true rfl⟩ hK hP hD hS hA (va_recv hK.1 hP (ci := 7) (q0 := 0) rfl rfl) rfl hl.1 rfl (Nat.le_of_ble_eq_true rfl) dL_law_661 ⟨by show cs + 0 + 0 ≤ 601024; omega, by show ss + 0 + 0 ≤ 7293000; omega⟩ (fun H locs b' hP hD hS => ?_)
  replace hP := P_3 hP
  replace hD := D_3 hD
  refine lv_icmp_eq (tgt := 720) hx hb dL_law_664 (by decide) (fun _ => ?_) (fun c => absurd rfl c)
  refine W.widen (k := cs + 1) (n := ss + 6) (by show cs + 0 + 0 ≤ cs + 1; omega) (by show ss + 0 + 0 ≤ ss + 6; omega) ?_
  exact kk _ _ _ _ _ _ _ _ _ _ hR2 hP hD hS hl

set_option maxHeartbeats 4000000 in
set_option maxRecDepth 100000 in
theorem lc_seal {p : Program} {l : Launch} {e : Env} {s : State} {m : MethodId} {below : List Frame} {meth : Method} {c : Code} {G : va_G} {E : ClassId × ClassId × ClassId} {b0 L : Nat} {xs : Nat → Int32} (C : LX p s m c G E b0 L xs) (N : Nat) {Rl : (Nat → Int32) → (Nat → Nat → Int32) → (Nat → Int32) → (Nat → Nat → Int32) → Prop} (hpm : pm_seal Rl N) {a b : Nat → Nat} {I : Nat → Int32} {R : Nat → Nat → Int32} {J : Nat → Int32} {S : Nat → Nat → Int32} {ho : Nat} {f : Nat → Int64} {i : Nat} (hi : i + 3 < L) (hL : L ≤ 2051) {cs ss : Nat} (hcs : cs + 1 ≤ 601024) (hss : ss + 6 ≤ 7293000) {H : Heap} {locs : List Loc} {ls : Array Slot} (hRl : Rl I R J S) (hP : va_P G vwCl (LW E a I R b J S ho f) H) (hD : va_D (fun q : Nat => s.heap.size ≤ q) (LW E a I R b J S ho f)) (hS : va_S (fun q : Nat => s.heap.size ≤ q) s.heap H locs) (hl : lv_has ls 7 [(0, .ref b0), (1, .ref (a 0)), (2, .ref (b 0)), (3, .ref ho), (4, .int (nI i))]) (kk : (∀ (a b : Nat → Nat) (I : Nat → Int32) (R : Nat → Nat → Int32) (J : Nat → Int32) (S : Nat → Nat → Int32) (f : Nat → Int64) (H : Heap) (locs : List Loc) (ls : Array Slot), Rl I R J S → va_P G vwCl (LW E a I R b J S ho f) H → va_D (fun q : Nat => s.heap.size ≤ q) (LW E a I R b J S ho f) → va_S (fun q : Nat => s.heap.size ≤ q) s.heap H locs → lv_has ls 7 [(0, .ref b0), (1, .ref (a 0)), (2, .ref (b 0)), (3, .ref ho), (4, .int (nI i))] → W p l e room_1 s m #[Value.ref b0] below meth c H locs (cs + 1) (ss + 6) (lw_Z below #[Value.ref b0] s) (F0 m 720 ls []))) : W p l e room_1 s m #[Value.ref b0] below meth c H locs (cs) (ss) (lw_Z below #[Value.ref b0] s) (F0 m 669 ls []) := by
  obtain ⟨hx, hb, hml, hown, hts, hK, hX, hbl⟩ := C
  have hA : ∀ q : Nat, s.heap.size ≤ q → (fun q : Nat => s.heap.size ≤ q) q := fun _ h => h
  have hbA : ¬ (fun q : Nat => s.heap.size ≤ q) b0 := Nat.not_le.mpr hbl
  obtain ⟨r, o0, q0, q1, h1, h2, hR2⟩ := hpm I R J S  hRl
  refine lv_aload_n hx hb dL_law_669 rfl (lv_at hl 1 rfl) ?_
  refine bVi (As := []) (rest := []) ⟨hx, hb, hml, hown, hts⟩ (k_X7_seal l G E N a I R  r o0 h1) ok_X7_seal okv_X7_seal wd_2f3d4f9b ⟨Nat.le_of_ble_eq_true rfl, Nat.le_of_ble_eq_true rfl⟩ hK hP hD hS hA (va_recv hK.1 hP (ci := 6) (q0 := 0) rfl rfl) rfl hl.1 rfl (Nat.le_of_ble_eq_true rfl) dL_law_670 ⟨by show cs + 0 ≤ 601024; omega, by show ss + 0 ≤ 7293000; omega⟩ (fun H locs a' hP hD hS => ?_)
  refine lv_aload_n hx hb dL_law_673 rfl (lv_at hl 2 rfl) ?_
  replace hP := P_3 hP
  replace hD := D_3 hD
  refine bVi (As := []) (rest := [.int r]) ⟨hx, hb, hml, hown, hts⟩ (k_X8_seal l G E N b J S  r q0 q1 h2) ok_X8_seal okv_X8_seal wd_2c22048f ⟨Nat.le_of_ble_eq_true rfl, Nat.le_of_ble_eq_true rfl⟩ hK hP hD hS hA (va_recv hK.1 hP (ci := 7) (q0 := 0) rfl rfl) rfl hl.1 rfl (Nat.le_of_ble_eq_true rfl) dL_law_674 ⟨by show cs + 0 + 0 ≤ 601024; omega, by show ss + 0 + 0 ≤ 7293000; omega⟩ (fun H locs b' hP hD hS => ?_)
  replace hP := P_3 hP
  replace hD := D_3 hD
  refine lv_icmp_eq (tgt := 720) hx hb dL_law_677 (by decide) (fun _ => ?_) (fun c => absurd rfl c)
  refine W.widen (k := cs + 1) (n := ss + 6) (by show cs + 0 + 0 ≤ cs + 1; omega) (by show ss + 0 + 0 ≤ ss + 6; omega) ?_
  exact kk _ _ _ _ _ _ _ _ _ _ hR2 hP hD hS hl

set_option maxHeartbeats 4000000 in
set_option maxRecDepth 100000 in
theorem lc_count {p : Program} {l : Launch} {e : Env} {s : State} {m : MethodId} {below : List Frame} {meth : Method} {c : Code} {G : va_G} {E : ClassId × ClassId × ClassId} {b0 L : Nat} {xs : Nat → Int32} (C : LX p s m c G E b0 L xs) (N : Nat) {Rl : (Nat → Int32) → (Nat → Nat → Int32) → (Nat → Int32) → (Nat → Nat → Int32) → Prop} (hpm : pm_count Rl N) {a b : Nat → Nat} {I : Nat → Int32} {R : Nat → Nat → Int32} {J : Nat → Int32} {S : Nat → Nat → Int32} {ho : Nat} {f : Nat → Int64} {i : Nat} (hi : i + 3 < L) (hL : L ≤ 2051) {cs ss : Nat} (hcs : cs + 1 ≤ 601024) (hss : ss + 6 ≤ 7293000) {H : Heap} {locs : List Loc} {ls : Array Slot} (hRl : Rl I R J S) (hP : va_P G vwCl (LW E a I R b J S ho f) H) (hD : va_D (fun q : Nat => s.heap.size ≤ q) (LW E a I R b J S ho f)) (hS : va_S (fun q : Nat => s.heap.size ≤ q) s.heap H locs) (hl : lv_has ls 7 [(0, .ref b0), (1, .ref (a 0)), (2, .ref (b 0)), (3, .ref ho), (4, .int (nI i))]) (kk : (∀ (a b : Nat → Nat) (I : Nat → Int32) (R : Nat → Nat → Int32) (J : Nat → Int32) (S : Nat → Nat → Int32) (f : Nat → Int64) (H : Heap) (locs : List Loc) (ls : Array Slot), Rl I R J S → va_P G vwCl (LW E a I R b J S ho f) H → va_D (fun q : Nat => s.heap.size ≤ q) (LW E a I R b J S ho f) → va_S (fun q : Nat => s.heap.size ≤ q) s.heap H locs → lv_has ls 7 [(0, .ref b0), (1, .ref (a 0)), (2, .ref (b 0)), (3, .ref ho), (4, .int (nI i))] → W p l e room_1 s m #[Value.ref b0] below meth c H locs (cs + 1) (ss + 6) (lw_Z below #[Value.ref b0] s) (F0 m 720 ls []))) : W p l e room_1 s m #[Value.ref b0] below meth c H locs (cs) (ss) (lw_Z below #[Value.ref b0] s) (F0 m 682 ls []) := by
  obtain ⟨hx, hb, hml, hown, hts, hK, hX, hbl⟩ := C
  have hA : ∀ q : Nat, s.heap.size ≤ q → (fun q : Nat => s.heap.size ≤ q) q := fun _ h => h
  have hbA : ¬ (fun q : Nat => s.heap.size ≤ q) b0 := Nat.not_le.mpr hbl
  obtain ⟨r, q0, h1, h2, hR2⟩ := hpm I R J S (xs (i + 1)) hRl
  refine lv_aload_n hx hb dL_law_682 rfl (lv_at hl 1 rfl) ?_
  refine lv_aload_n hx hb dL_law_683 rfl (lv_at hl 0 rfl) ?_
  refine lv_iload hx hb dL_law_684 (lv_at hl 4 rfl) ?_
  refine lv_iconst (v := nI 1) hx hb dL_law_686 (by decide) ?_
  refine lv_iadd hx hb dL_law_687 ?_
  refine va_sld hx hb hX hbl hbA hS (ix_in 1 (by decide) hi hL).1 dL_law_688 ?_
  refine W.eq (g2 := F0 m 689 ls [.int (xs (i + 1)), .ref (a 0)]) (by rw [(ix_in 1 (by decide) hi hL).2]) ?_
  refine bVi (As := [.int (xs (i + 1))]) (rest := []) ⟨hx, hb, hml, hown, hts⟩ (k_X7_count l G E N a I R (xs (i + 1)) r  h1) ok_X7_count okv_X7_count wd_261bed27 ⟨Nat.le_of_ble_eq_true rfl, Nat.le_of_ble_eq_true rfl⟩ hK hP hD hS hA (va_recv hK.1 hP (ci := 6) (q0 := 0) rfl rfl) rfl hl.1 rfl (Nat.le_of_ble_eq_true rfl) dL_law_689 ⟨by show cs + 0 ≤ 601024; omega, by show ss + 0 ≤ 7293000; omega⟩ (fun H locs a' hP hD hS => ?_)
  refine lv_aload_n hx hb dL_law_692 rfl (lv_at hl 2 rfl) ?_
  refine lv_aload_n hx hb dL_law_693 rfl (lv_at hl 0 rfl) ?_
  refine lv_iload hx hb dL_law_694 (lv_at hl 4 rfl) ?_
  refine lv_iconst (v := nI 1) hx hb dL_law_696 (by decide) ?_
  refine lv_iadd hx hb dL_law_697 ?_
  refine va_sld hx hb hX hbl hbA hS (ix_in 1 (by decide) hi hL).1 dL_law_698 ?_
  refine W.eq (g2 := F0 m 699 ls [.int (xs (i + 1)), .ref (b 0), .int r]) (by rw [(ix_in 1 (by decide) hi hL).2]) ?_
  replace hP := P_3 hP
  replace hD := D_3 hD
  refine bVi (As := [.int (xs (i + 1))]) (rest := [.int r]) ⟨hx, hb, hml, hown, hts⟩ (k_X8_count l G E N b J S (xs (i + 1)) r q0 h2) ok_X8_count okv_X8_count wd_51108368 ⟨Nat.le_of_ble_eq_true rfl, Nat.le_of_ble_eq_true rfl⟩ hK hP hD hS hA (va_recv hK.1 hP (ci := 7) (q0 := 0) rfl rfl) rfl hl.1 rfl (Nat.le_of_ble_eq_true rfl) dL_law_699 ⟨by show cs + 0 + 0 ≤ 601024; omega, by show ss + 0 + 0 ≤ 7293000; omega⟩ (fun H locs b' hP hD hS => ?_)
  replace hP := P_3 hP
  replace hD := D_3 hD
  refine lv_icmp_eq (tgt := 720) hx hb dL_law_702 (by decide) (fun _ => ?_) (fun c => absurd rfl c)
  refine W.widen (k := cs + 1) (n := ss + 6) (by show cs + 0 + 0 ≤ cs + 1; omega) (by show ss + 0 + 0 ≤ ss + 6; omega) ?_
  exact kk _ _ _ _ _ _ _ _ _ _ hR2 hP hD hS hl

set_option maxHeartbeats 4000000 in
set_option maxRecDepth 100000 in
theorem lc_hash {p : Program} {l : Launch} {e : Env} {s : State} {m : MethodId} {below : List Frame} {meth : Method} {c : Code} {G : va_G} {E : ClassId × ClassId × ClassId} {b0 L : Nat} {xs : Nat → Int32} (C : LX p s m c G E b0 L xs) (N : Nat) {Rl : (Nat → Int32) → (Nat → Nat → Int32) → (Nat → Int32) → (Nat → Nat → Int32) → Prop} (hpm : pm_hash Rl N) {a b : Nat → Nat} {I : Nat → Int32} {R : Nat → Nat → Int32} {J : Nat → Int32} {S : Nat → Nat → Int32} {ho : Nat} {f : Nat → Int64} {i : Nat} (hi : i + 3 < L) (hL : L ≤ 2051) {cs ss : Nat} (hcs : cs + 1 ≤ 601024) (hss : ss + 6 ≤ 7293000) {H : Heap} {locs : List Loc} {ls : Array Slot} (hRl : Rl I R J S) (hP : va_P G vwCl (LW E a I R b J S ho f) H) (hD : va_D (fun q : Nat => s.heap.size ≤ q) (LW E a I R b J S ho f)) (hS : va_S (fun q : Nat => s.heap.size ≤ q) s.heap H locs) (hl : lv_has ls 7 [(0, .ref b0), (1, .ref (a 0)), (2, .ref (b 0)), (3, .ref ho), (4, .int (nI i))]) (kk : (∀ (a b : Nat → Nat) (I : Nat → Int32) (R : Nat → Nat → Int32) (J : Nat → Int32) (S : Nat → Nat → Int32) (f : Nat → Int64) (H : Heap) (locs : List Loc) (ls : Array Slot), Rl I R J S → va_P G vwCl (LW E a I R b J S ho f) H → va_D (fun q : Nat => s.heap.size ≤ q) (LW E a I R b J S ho f) → va_S (fun q : Nat => s.heap.size ≤ q) s.heap H locs → lv_has ls 7 [(0, .ref b0), (1, .ref (a 0)), (2, .ref (b 0)), (3, .ref ho), (4, .int (nI i))] → W p l e room_1 s m #[Value.ref b0] below meth c H locs (cs + 1) (ss + 6) (lw_Z below #[Value.ref b0] s) (F0 m 720 ls []))) : W p l e room_1 s m #[Value.ref b0] below meth c H locs (cs) (ss) (lw_Z below #[Value.ref b0] s) (F0 m 707 ls []) := by
  obtain ⟨hx, hb, hml, hown, hts, hK, hX, hbl⟩ := C
  have hA : ∀ q : Nat, s.heap.size ≤ q → (fun q : Nat => s.heap.size ≤ q) q := fun _ h => h
  have hbA : ¬ (fun q : Nat => s.heap.size ≤ q) b0 := Nat.not_le.mpr hbl
  obtain ⟨r, q0, h1, h2, hR2⟩ := hpm I R J S  hRl
  refine lv_aload_n hx hb dL_law_707 rfl (lv_at hl 1 rfl) ?_
  refine bVi (As := []) (rest := []) ⟨hx, hb, hml, hown, hts⟩ (k_X7_hash l G E N a I R  r  h1) ok_X7_hash okv_X7_hash wd_572d2f85 ⟨Nat.le_of_ble_eq_true rfl, Nat.le_of_ble_eq_true rfl⟩ hK hP hD hS hA (va_recv hK.1 hP (ci := 6) (q0 := 0) rfl rfl) rfl hl.1 rfl (Nat.le_of_ble_eq_true rfl) dL_law_708 ⟨by show cs + 0 ≤ 601024; omega, by show ss + 0 ≤ 7293000; omega⟩ (fun H locs a' hP hD hS => ?_)
  refine lv_aload_n hx hb dL_law_711 rfl (lv_at hl 2 rfl) ?_
  replace hP := P_3 hP
  replace hD := D_3 hD
  refine bVi (As := []) (rest := [.int r]) ⟨hx, hb, hml, hown, hts⟩ (k_X8_hash l G E N b J S  r q0 h2) ok_X8_hash okv_X8_hash wd_56df588e ⟨Nat.le_of_ble_eq_true rfl, Nat.le_of_ble_eq_true rfl⟩ hK hP hD hS hA (va_recv hK.1 hP (ci := 7) (q0 := 0) rfl rfl) rfl hl.1 rfl (Nat.le_of_ble_eq_true rfl) dL_law_712 ⟨by show cs + 0 + 0 ≤ 601024; omega, by show ss + 0 + 0 ≤ 7293000; omega⟩ (fun H locs b' hP hD hS => ?_)
  replace hP := P_3 hP
  replace hD := D_3 hD
  refine lv_icmp_eq (tgt := 720) hx hb dL_law_715 (by decide) (fun _ => ?_) (fun c => absurd rfl c)
  refine W.widen (k := cs + 1) (n := ss + 6) (by show cs + 0 + 0 ≤ cs + 1; omega) (by show ss + 0 + 0 ≤ ss + 6; omega) ?_
  exact kk _ _ _ _ _ _ _ _ _ _ hR2 hP hD hS hl

