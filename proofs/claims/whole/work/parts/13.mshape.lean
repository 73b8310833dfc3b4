/-- a long in two rows' places -/
def jl (a b : Int32) : Int64 := lN (a.toBitVec.toNat * 2 ^ 32 + b.toBitVec.toNat)
def jhi (x : Int64) : Int32 := nI (x.toBitVec.toNat / 2 ^ 32)
def jlo (x : Int64) : Int32 := nI (x.toBitVec.toNat % 2 ^ 32)
theorem jl_of (x : Int64) : jl (jhi x) (jlo x) = x := by
  have hx : x.toBitVec.toNat < 2 ^ 64 := x.toBitVec.isLt
  unfold jl jhi jlo
  rw [pk_tn (by omega), pk_tn (by omega), show x.toBitVec.toNat / 2 ^ 32 * 2 ^ 32 + x.toBitVec.toNat % 2 ^ 32 = x.toBitVec.toNat from by omega]
  show Int64.ofNat x.toBitVec.toNat = x
  apply Int64.toBitVec_inj.mp
  rw [Int64.toBitVec_ofNat']
  simp
/-- the reference: itself 0 (isKept, taped, gone, at, sort, from, fault, value in two), d 1, e 2, aside 3, kept 4, found 5, tape 6, bitsOf 7, sizeOf 8, number 9, passing 10 -/
def shM (G : gG) (ad : Nat → Nat) (k : Nat) (f : Nat → Int32) : va_E := if k = 0 then .inr (7, [.ref (ad 1), .ref (ad 2), .ref (ad 3), .ref (ad 4), .int (f 0), .ref (ad 5), .ref (ad 6), .int (f 1), .int (f 2), .int (f 3), .int (f 4), .int (f 5), .long (jl (f 7) (f 8)), .int (f 6), .ref (ad 7), .ref (ad 8), .ref (ad 9), .ref (ad 10)]) else if k < 5 then eI G 75 f else if k = 5 then eI G 7 f else if k = 6 then eB G 120 f else if k < 9 then eI G 4 f else if k = 9 then eI G 160 f else eI G 40 f
theorem shM_0 (G : gG) (ad : Nat → Nat) (f : Nat → Int32) : shM G ad 0 f = .inr (7, [.ref (ad 1), .ref (ad 2), .ref (ad 3), .ref (ad 4), .int (f 0), .ref (ad 5), .ref (ad 6), .int (f 1), .int (f 2), .int (f 3), .int (f 4), .int (f 5), .long (jl (f 7) (f 8)), .int (f 6), .ref (ad 7), .ref (ad 8), .ref (ad 9), .ref (ad 10)]) := rfl
theorem shM_1 (G : gG) (ad : Nat → Nat) (f : Nat → Int32) : shM G ad 1 f = .inl (G.2.1 0, 75, .inl f) := rfl
theorem shM_2 (G : gG) (ad : Nat → Nat) (f : Nat → Int32) : shM G ad 2 f = .inl (G.2.1 0, 75, .inl f) := rfl
theorem shM_3 (G : gG) (ad : Nat → Nat) (f : Nat → Int32) : shM G ad 3 f = .inl (G.2.1 0, 75, .inl f) := rfl
theorem shM_4 (G : gG) (ad : Nat → Nat) (f : Nat → Int32) : shM G ad 4 f = .inl (G.2.1 0, 75, .inl f) := rfl
theorem shM_5 (G : gG) (ad : Nat → Nat) (f : Nat → Int32) : shM G ad 5 f = .inl (G.2.1 0, 7, .inl f) := rfl
theorem shM_6 (G : gG) (ad : Nat → Nat) (f : Nat → Int32) : shM G ad 6 f = .inl (G.2.1 1, 120, .inl f) := rfl
theorem shM_7 (G : gG) (ad : Nat → Nat) (f : Nat → Int32) : shM G ad 7 f = .inl (G.2.1 0, 4, .inl f) := rfl
theorem shM_8 (G : gG) (ad : Nat → Nat) (f : Nat → Int32) : shM G ad 8 f = .inl (G.2.1 0, 4, .inl f) := rfl
theorem shM_9 (G : gG) (ad : Nat → Nat) (f : Nat → Int32) : shM G ad 9 f = .inl (G.2.1 0, 160, .inl f) := rfl
theorem shM_10 (G : gG) (ad : Nat → Nat) (f : Nat → Int32) : shM G ad 10 f = .inl (G.2.1 0, 40, .inl f) := rfl
theorem shM_val (G : gG) (ad : Nat → Nat) (f : Nat → Int32) (x : Int64) : (.inr (7, [.ref (ad 1), .ref (ad 2), .ref (ad 3), .ref (ad 4), .int (f 0), .ref (ad 5), .ref (ad 6), .int (f 1), .int (f 2), .int (f 3), .int (f 4), .int (f 5), .long x, .int (f 6), .ref (ad 7), .ref (ad 8), .ref (ad 9), .ref (ad 10)]) : va_E) = shM G ad 0 (upd (upd f 7 (jhi x)) 8 (jlo x)) := by
  show _ = (.inr (7, [.ref (ad 1), .ref (ad 2), .ref (ad 3), .ref (ad 4), .int (f 0), .ref (ad 5), .ref (ad 6), .int (f 1), .int (f 2), .int (f 3), .int (f 4), .int (f 5), .long (jl (jhi x) (jlo x)), .int (f 6), .ref (ad 7), .ref (ad 8), .ref (ad 9), .ref (ad 10)]) : va_E)
  rw [jl_of]
theorem mset_two (σ : gM) (k j j' : Nat) (x y : Int32) : va_up σ k (upd (upd (σ k) j x) j' y) = mset (mset σ k j x) k j' y := by
  unfold mset
  rw [va_up_self]
  funext i
  by_cases h : i = k
  · subst h; rw [va_up_self, va_up_self]
  · rw [va_up_ne _ _ h, va_up_ne _ _ h, va_up_ne _ _ h]
