/-! ===== the pure side: small numbers, two programs beside each other ===== -/
theorem nI_sub {a b : Nat} (h : b ≤ a) : nI a - nI b = nI (a - b) := by
  obtain ⟨c, rfl⟩ := Nat.exists_eq_add_of_le h
  rw [Nat.add_sub_cancel_left, ← nI_add, Int32.add_comm, Int32.add_sub_cancel]
theorem nI_mul (a b : Nat) : nI a * nI b = nI (a * b) := (Int32.ofNat_mul a b).symm
theorem nI_div {a b : Nat} (ha : a < 2 ^ 31) (hb : b < 2 ^ 31) : nI a / nI b = nI (a / b) := by
  apply Int32.toInt_inj.mp
  have hab : a / b < 2 ^ 31 := Nat.lt_of_le_of_lt (Nat.div_le_self a b) ha
  rw [Int32.toInt_div_of_ne_left, nI_toInt ha, nI_toInt hb, nI_toInt hab]
  · exact (Int.ofNat_tdiv a b).symm
  · intro e
    have e2 := congrArg Int32.toInt e
    rw [nI_toInt ha] at e2
    have e3 : Int32.minValue.toInt = -2147483648 := rfl
    omega
theorem nI_rem {a b : Nat} (ha : a < 2 ^ 31) (hb : b < 2 ^ 31) : i_rem (nI a) (nI b) = nI (a % b) := by
  unfold i_rem
  rw [nI_div ha hb, nI_mul, nI_sub (Nat.div_mul_le_self a b)]
  have h := Nat.div_add_mod a b
  rw [Nat.mul_comm] at h
  congr 1
  omega
theorem nI_ex {x : Int32} (h : 0 ≤ x.toInt) : ∃ n : Nat, n < 2 ^ 31 ∧ x = nI n := nI_of (fun c => by rw [ltI, show (0 : Int32).toInt = 0 from rfl] at c; omega)
theorem nI_exb {x : Int32} {b : Nat} (h : 0 ≤ x.toInt) (h2 : x.toInt ≤ b) : ∃ n : Nat, n ≤ b ∧ n < 2 ^ 31 ∧ x = nI n := by
  obtain ⟨n, hn, e⟩ := nI_ex h
  rw [e, nI_toInt hn] at h2
  exact ⟨n, by omega, hn, e⟩
theorem nI_inc (a : Nat) : nI a + 1 = nI (a + 1) := nI_1 a
theorem nI_dec (a : Nat) : nI (a + 1) + (-1) = nI a := by
  rw [← nI_inc, Int32.add_assoc, show (1 : Int32) + (-1) = 0 from rfl, Int32.add_zero]
theorem gin_n {α : Type} {i n : Nat} {k : Option α} (h : i < n) (hn : n < 2 ^ 31) : gin (nI i) n k = k := by
  unfold gin
  rw [if_neg (nI_in h hn)]
theorem lt0_n {a : Nat} (ha : a < 2 ^ 31) : nI a < 0 ↔ False := by
  rw [ltI, nI_toInt ha, show (0 : Int32).toInt = 0 from rfl]
  exact ⟨fun h => by omega, fun h => h.elim⟩
theorem gt0_n {a : Nat} (ha : a < 2 ^ 31) : 0 < nI a ↔ 0 < a := by
  rw [ltI, nI_toInt ha, show (0 : Int32).toInt = 0 from rfl]
  omega
theorem le0_n {a : Nat} (ha : a < 2 ^ 31) : nI a ≤ 0 ↔ a = 0 := by
  rw [leI, nI_toInt ha, show (0 : Int32).toInt = 0 from rfl]
  omega
theorem ge0_n {a : Nat} (ha : a < 2 ^ 31) : 0 ≤ nI a ↔ True := by
  rw [leI, nI_toInt ha, show (0 : Int32).toInt = 0 from rfl]
  exact ⟨fun _ => trivial, fun _ => by omega⟩
theorem eq0_n {a : Nat} (ha : a < 2 ^ 31) : nI a = 0 ↔ a = 0 := by
  rw [← nI_0, nI_eq ha (by decide)]
theorem gnz_n {α : Type} {a : Nat} {k : Option α} (h0 : 0 < a) (h : a < 2 ^ 31) : gnz (nI a) k = k := gnz_s (by rw [nI_toInt h]; omega)
theorem i1_0 : ((1 : Int32) = 0) ↔ False := by decide
theorem i0_0 : ((0 : Int32) = 0) ↔ True := by decide
theorem ifT {α : Type} {a b : α} : (if True then a else b) = a := if_pos trivial
theorem ifF {α : Type} {a b : α} : (if False then a else b) = b := if_neg id
section REL2
variable {α β : Type}
/-- both programs end, and their ends belong together -/
def rel2 (x : Option α) (y : Option β) (Q : α → β → Prop) : Prop := ∃ a b, x = some a ∧ y = some b ∧ Q a b
theorem rel2_s {a : α} {b : β} {Q : α → β → Prop} (h : Q a b) : rel2 (some a) (some b) Q := ⟨a, b, rfl, rfl, h⟩
theorem rel2_bd {γ δ : Type} {x : Option γ} {y : Option δ} {f : γ → Option α} {g : δ → Option β} {Q : α → β → Prop} {T : γ → δ → Prop} (h : rel2 x y T) (k : ∀ a b, T a b → rel2 (f a) (g b) Q) : rel2 (bd x f) (bd y g) Q := by
  obtain ⟨a, b, rfl, rfl, h⟩ := h
  exact k a b h
theorem rel2_l {γ : Type} {x : Option γ} {y : Option β} {f : γ → Option α} {Q : α → β → Prop} {a : γ} (h : x = some a) (k : rel2 (f a) y Q) : rel2 (bd x f) y Q := by
  rw [h]; exact k
theorem rel2_r {γ : Type} {x : Option α} {y : Option γ} {f : γ → Option β} {Q : α → β → Prop} {a : γ} (h : y = some a) (k : rel2 x (f a) Q) : rel2 x (bd y f) Q := by
  rw [h]; exact k
/-- one program ends, and its end is good -/
def sp (x : Option α) (Q : α → Prop) : Prop := ∃ a, x = some a ∧ Q a
theorem sp_s {a : α} {Q : α → Prop} (h : Q a) : sp (some a) Q := ⟨a, rfl, h⟩
theorem sp_bd {γ : Type} {x : Option γ} {f : γ → Option α} {Q : α → Prop} {T : γ → Prop} (h : sp x T) (k : ∀ a, T a → sp (f a) Q) : sp (bd x f) Q := by
  obtain ⟨a, rfl, h⟩ := h
  exact k a h
theorem rel2_sl {γ : Type} {x : Option γ} {y : Option β} {f : γ → Option α} {Q : α → β → Prop} {T : γ → Prop} (h : sp x T) (k : ∀ a, T a → rel2 (f a) y Q) : rel2 (bd x f) y Q := by
  obtain ⟨a, rfl, h⟩ := h
  exact k a h
theorem rel2_sr {γ : Type} {x : Option α} {y : Option γ} {f : γ → Option β} {Q : α → β → Prop} {T : γ → Prop} (h : sp y T) (k : ∀ a, T a → rel2 x (f a) Q) : rel2 x (bd y f) Q := by
  obtain ⟨a, rfl, h⟩ := h
  exact k a h
end REL2
/-- bytes -/
def Byt (x : Int32) : Prop := ∃ b : Nat, b < 256 ∧ x = nI b
theorem Byt_r {x : Int32} (h : 0 ≤ x.toInt) (h2 : x.toInt ≤ 255) : Byt x := by
  obtain ⟨n, h1, h3, e⟩ := nI_exb (b := 255) h h2
  exact ⟨n, by omega, e⟩
theorem nI_and (a b : Nat) : nI a &&& nI b = nI (a &&& b) := by
  apply Int32.toBitVec_inj.mp
  show BitVec.ofNat 32 a &&& BitVec.ofNat 32 b = BitVec.ofNat 32 (a &&& b)
  exact BitVec.ofNat_and.symm
theorem nI_xor (a b : Nat) : nI a ^^^ nI b = nI (a ^^^ b) := by
  apply Int32.toBitVec_inj.mp
  show BitVec.ofNat 32 a ^^^ BitVec.ofNat 32 b = BitVec.ofNat 32 (a ^^^ b)
  exact BitVec.ofNat_xor.symm
theorem Byt_255 {x : Int32} (h : Byt x) : x &&& 255 = x := by
  obtain ⟨b, hb, rfl⟩ := h
  rw [show (255 : Int32) = nI 255 from rfl, nI_and]
  rw [show 255 = 2 ^ 8 - 1 from rfl, Nat.and_two_pow_sub_one_eq_mod, Nat.mod_eq_of_lt hb]
theorem Byt_xor {x y : Int32} (hx : Byt x) (hy : Byt y) : Byt (x ^^^ y) := by
  obtain ⟨a, ha, rfl⟩ := hx
  obtain ⟨b, hb, rfl⟩ := hy
  exact ⟨a ^^^ b, Nat.xor_lt_two_pow (n := 8) ha hb, nI_xor a b⟩
theorem Byt_and (x : Int32) : Byt (x &&& 255) := by
  refine ⟨(x.toUInt32 &&& 255).toNat, ?_, ?_⟩
  · have : (x.toUInt32 &&& 255).toNat = x.toUInt32.toNat &&& 255 := UInt32.toNat_and ..
    rw [this]
    exact Nat.lt_of_le_of_lt Nat.and_le_right (by decide)
  · apply Int32.toBitVec_inj.mp
    apply BitVec.eq_of_toNat_eq
    show _ = (Int32.ofNat _).toBitVec.toNat
    rw [Int32.toBitVec_ofNat']
    rw [BitVec.toNat_ofNat]
    have : (x.toUInt32 &&& 255).toNat < 2 ^ 32 := (x.toUInt32 &&& 255).toNat_lt
    rw [Nat.mod_eq_of_lt this]
    rfl
theorem Byt_0 : Byt 0 := ⟨0, by decide, rfl⟩
