def nN (x : Int32) : Nat := x.toNatClampNeg
theorem nN_nI {n : Nat} (h : n < 2 ^ 31) : nN (nI n) = n := nI_clamp h
def jrem (x y : Int32) : Int32 := x - x / y * y
def jshl (x y : Int32) : Int32 := x <<< (y &&& 31)
def jshr (x y : Int32) : Int32 := x >>> (y &&& 31)
def jushr (x y : Int32) : Int32 := (x.toUInt32 >>> (y.toUInt32 &&& Int32.toUInt32 31)).toInt32
section
variable {p : Program} {l : Launch} {e : Env} {R : Room} {s : State} {m : MethodId} {args : Array Value} {below : List Frame} {meth : Method} {c : Code} {H : Heap} {locs : List Loc} {cells slots : Nat} {Q : State → Prop} {cc : ByteArray} {pc : Nat} {ls : Array Slot} {rest : List Value}
theorem g_irem (hexec : p.tables.exec = Jvm.exec) (hb : c.code = cc) {x y : Int32} (hdg : decode cc pc = .ok (.irem, 1)) (hne : ¬ y = 0) (k : W p l e R s m args below meth c H locs cells slots Q (F0 m (pc + 1) ls (.int (jrem x y) :: rest))) : W p l e R s m args below meth c H locs cells slots Q (F0 m pc ls (.int y :: .int x :: rest)) := lv_irem hexec hb hdg hne k
theorem g_ishl (hexec : p.tables.exec = Jvm.exec) (hb : c.code = cc) {x y : Int32} (hdg : decode cc pc = .ok (.ishl, 1)) (k : W p l e R s m args below meth c H locs cells slots Q (F0 m (pc + 1) ls (.int (jshl x y) :: rest))) : W p l e R s m args below meth c H locs cells slots Q (F0 m pc ls (.int y :: .int x :: rest)) := lv_ishl hexec hb hdg k
theorem g_ishr (hexec : p.tables.exec = Jvm.exec) (hb : c.code = cc) {x y : Int32} (hdg : decode cc pc = .ok (.ishr, 1)) (k : W p l e R s m args below meth c H locs cells slots Q (F0 m (pc + 1) ls (.int (jshr x y) :: rest))) : W p l e R s m args below meth c H locs cells slots Q (F0 m pc ls (.int y :: .int x :: rest)) := lv_ishr hexec hb hdg k
theorem g_iushr (hexec : p.tables.exec = Jvm.exec) (hb : c.code = cc) {x y : Int32} (hdg : decode cc pc = .ok (.iushr, 1)) (k : W p l e R s m args below meth c H locs cells slots Q (F0 m (pc + 1) ls (.int (jushr x y) :: rest))) : W p l e R s m args below meth c H locs cells slots Q (F0 m pc ls (.int y :: .int x :: rest)) := lv_iushr hexec hb hdg rfl k
end
/-! shapes of worlds -/
def eG (f : Nat → Int32) : va_E := .inr (1, [.int (f 0), .int (f 1), .int (f 2), .int (f 3), .int (f 4), .int (f 5), .int (f 6)])
def eI (G : gG) (N : Nat) (f : Nat → Int32) : va_E := .inl (G.2.1 0, N, .inl f)
def eB (G : gG) (N : Nat) (f : Nat → Int32) : va_E := .inl (G.2.1 1, N, .inl f)
def eF (cA : ClassId) (N : Nat) (g : Nat → Nat) : va_E := .inl (cA, N, .inr (.inr (.inr (.inr (fun j => some (g j))))))
/-- a glove (or two) -/
def shG : Nat → (Nat → Int32) → va_E := fun _ f => eG f
theorem shG_g {k : Nat} (f : Nat → Int32) : shG k f = .inr (1, [.int (f 0), .int (f 1), .int (f 2), .int (f 3), .int (f 4), .int (f 5), .int (f 6)]) := rfl
/-- a club: gloves 0 to 7, itself 8 (size, day, z), list 9, spots 10, its row of gloves 11 -/
def shC (G : gG) (ad : Nat → Nat) (k : Nat) (f : Nat → Int32) : va_E := if k < 8 then eG f else if k = 8 then .inr (0, [.ref (ad 11), .ref (ad 9), .ref (ad 10), .int (f 0), .int (f 1), .int (f 2)]) else if k = 9 then eI G 6 f else if k = 10 then eI G 10 f else eF (G.2.1 2) 8 ad
theorem shC_g (G : gG) (ad : Nat → Nat) {k : Nat} (h : k < 8) (f : Nat → Int32) : shC G ad k f = .inr (1, [.int (f 0), .int (f 1), .int (f 2), .int (f 3), .int (f 4), .int (f 5), .int (f 6)]) := if_pos h
theorem shC_8 (G : gG) (ad : Nat → Nat) (f : Nat → Int32) : shC G ad 8 f = .inr (0, [.ref (ad 11), .ref (ad 9), .ref (ad 10), .int (f 0), .int (f 1), .int (f 2)]) := rfl
theorem shC_9 (G : gG) (ad : Nat → Nat) (f : Nat → Int32) : shC G ad 9 f = .inl (G.2.1 0, 6, .inl f) := rfl
theorem shC_10 (G : gG) (ad : Nat → Nat) (f : Nat → Int32) : shC G ad 10 f = .inl (G.2.1 0, 10, .inl f) := rfl
theorem shC_11 (G : gG) (ad : Nat → Nat) (f : Nat → Int32) : shC G ad 11 f = .inl (G.2.1 2, 8, .inr (.inr (.inr (.inr (fun j => some (ad j)))))) := rfl
theorem shC_sub (G : gG) (ad : Nat → Nat) {g : Nat} (hg : g < 8) : ∀ i, i < 1 → ∀ f, shC G ad (g + i) f = shG i f := fun i hi f => by
  obtain rfl : i = 0 := by omega
  exact if_pos hg
/-- two clubs -/
def shD (G : gG) (ad : Nat → Nat) (k : Nat) (f : Nat → Int32) : va_E := if k < 12 then shC G ad k f else shC G (fun i => ad (12 + i)) (k - 12) f
/-- a sheet: itself 0 (bits, size), its numbers 1 -/
def shS (G : gG) (ad : Nat → Nat) (k : Nat) (f : Nat → Int32) : va_E := if k = 0 then .inr (2, [.ref (ad 1), .int (f 0), .int (f 1)]) else eI G 40 f
theorem shS_0 (G : gG) (ad : Nat → Nat) (f : Nat → Int32) : shS G ad 0 f = .inr (2, [.ref (ad 1), .int (f 0), .int (f 1)]) := rfl
theorem shS_1 (G : gG) (ad : Nat → Nat) (f : Nat → Int32) : shS G ad 1 f = .inl (G.2.1 0, 40, .inl f) := rfl
/-- a tape: itself 0 (length), its bytes 1 -/
def shP (G : gG) (ad : Nat → Nat) (k : Nat) (f : Nat → Int32) : va_E := if k = 0 then .inr (3, [.ref (ad 1), .int (f 0)]) else eB G 120 f
theorem shP_0 (G : gG) (ad : Nat → Nat) (f : Nat → Int32) : shP G ad 0 f = .inr (3, [.ref (ad 1), .int (f 0)]) := rfl
theorem shP_1 (G : gG) (ad : Nat → Nat) (f : Nat → Int32) : shP G ad 1 f = .inl (G.2.1 1, 120, .inl f) := rfl
/-- tokens: themselves 0 (size), sorts 1, starts 2, ends 3, numbers 4; the tape 5, 6 -/
def shK (G : gG) (ad : Nat → Nat) (k : Nat) (f : Nat → Int32) : va_E := if k = 0 then .inr (5, [.ref (ad 1), .ref (ad 2), .ref (ad 3), .ref (ad 4), .int (f 0)]) else if k < 5 then eI G 121 f else shP G (fun i => ad (5 + i)) (k - 5) f
theorem shK_0 (G : gG) (ad : Nat → Nat) (f : Nat → Int32) : shK G ad 0 f = .inr (5, [.ref (ad 1), .ref (ad 2), .ref (ad 3), .ref (ad 4), .int (f 0)]) := rfl
theorem shK_1 (G : gG) (ad : Nat → Nat) (f : Nat → Int32) : shK G ad 1 f = .inl (G.2.1 0, 121, .inl f) := rfl
theorem shK_2 (G : gG) (ad : Nat → Nat) (f : Nat → Int32) : shK G ad 2 f = .inl (G.2.1 0, 121, .inl f) := rfl
theorem shK_3 (G : gG) (ad : Nat → Nat) (f : Nat → Int32) : shK G ad 3 f = .inl (G.2.1 0, 121, .inl f) := rfl
theorem shK_4 (G : gG) (ad : Nat → Nat) (f : Nat → Int32) : shK G ad 4 f = .inl (G.2.1 0, 121, .inl f) := rfl
theorem shK_5 (G : gG) (ad : Nat → Nat) (f : Nat → Int32) : shK G ad 5 f = .inr (3, [.ref (ad 6), .int (f 0)]) := rfl
theorem shK_tape (G : gG) (ad : Nat → Nat) : ∀ i, i < 2 → ∀ f, shK G ad (5 + i) f = shP G (fun i => ad (5 + i)) i f := fun i hi f => by
  obtain rfl | rfl : i = 0 ∨ i = 1 := by omega
  · rfl
  · rfl
/-- the reader's world: a club 0 to 11, itself 12 (at, faulty), tokens and tape 13 to 19 -/
def shR (G : gG) (ad : Nat → Nat) (k : Nat) (f : Nat → Int32) : va_E := if k < 12 then shC G ad k f else if k = 12 then .inr (4, [.ref (ad 13), .int (f 0), .int (f 1)]) else shK G (fun i => ad (13 + i)) (k - 13) f
theorem shR_12 (G : gG) (ad : Nat → Nat) (f : Nat → Int32) : shR G ad 12 f = .inr (4, [.ref (ad 13), .int (f 0), .int (f 1)]) := rfl
theorem shR_8 (G : gG) (ad : Nat → Nat) (f : Nat → Int32) : shR G ad 8 f = .inr (0, [.ref (ad 11), .ref (ad 9), .ref (ad 10), .int (f 0), .int (f 1), .int (f 2)]) := rfl
theorem shR_9 (G : gG) (ad : Nat → Nat) (f : Nat → Int32) : shR G ad 9 f = .inl (G.2.1 0, 6, .inl f) := rfl
theorem shR_11 (G : gG) (ad : Nat → Nat) (f : Nat → Int32) : shR G ad 11 f = .inl (G.2.1 2, 8, .inr (.inr (.inr (.inr (fun j => some (ad j)))))) := rfl
theorem shR_13 (G : gG) (ad : Nat → Nat) (f : Nat → Int32) : shR G ad 13 f = .inr (5, [.ref (ad 14), .ref (ad 15), .ref (ad 16), .ref (ad 17), .int (f 0)]) := rfl
theorem shR_18 (G : gG) (ad : Nat → Nat) (f : Nat → Int32) : shR G ad 18 f = .inr (3, [.ref (ad 19), .int (f 0)]) := rfl
theorem shR_g (G : gG) (ad : Nat → Nat) {k : Nat} (h : k < 8) (f : Nat → Int32) : shR G ad k f = .inr (1, [.int (f 0), .int (f 1), .int (f 2), .int (f 3), .int (f 4), .int (f 5), .int (f 6)]) := by
  unfold shR
  rw [if_pos (by omega)]
  exact shC_g G ad h f
theorem shR_club (G : gG) (ad : Nat → Nat) : ∀ i, i < 12 → ∀ f, shR G ad (0 + i) f = shC G (fun i => ad (0 + i)) i f := fun i hi f => by
  rw [Nat.zero_add]
  unfold shR
  rw [if_pos hi]
  simp only [Nat.zero_add]
theorem shR_glove (G : gG) (ad : Nat → Nat) {g : Nat} (hg : g < 8) : ∀ i, i < 1 → ∀ f, shR G ad (g + i) f = shG i f := fun i hi f => by
  obtain rfl : i = 0 := by omega
  exact shR_g G ad hg f
theorem shR_tok (G : gG) (ad : Nat → Nat) : ∀ i, i < 7 → ∀ f, shR G ad (13 + i) f = shK G (fun i => ad (13 + i)) i f := fun i hi f => by
  unfold shR
  rw [if_neg (by omega), if_neg (by omega)]
  congr 1
  omega
/-- the whole object: club 0 to 11, kept 12 to 23, trial 24 to 35, reader 36, tokens and tape 37 to 43, itself 44 (keeping), findings 45, its row of sheets 46, sheets 47 to 54 -/
def shX (G : gG) (ad : Nat → Nat) (k : Nat) (f : Nat → Int32) : va_E := if k < 24 then shD G ad k f else if k < 44 then shR G (fun i => ad (24 + i)) (k - 24) f else if k = 44 then .inr (6, [.ref (ad 8), .ref (ad 20), .ref (ad 32), .int (f 0), .ref (ad 42), .ref (ad 36), .ref (ad 46), .ref (ad 45)]) else if k = 45 then eI G 7 f else if k = 46 then eF (G.2.1 3) 4 (fun j => ad (47 + 2 * j)) else shS G (fun i => ad (47 + 2 * ((k - 47) / 2) + i)) ((k - 47) % 2) f
theorem shX_44 (G : gG) (ad : Nat → Nat) (f : Nat → Int32) : shX G ad 44 f = .inr (6, [.ref (ad 8), .ref (ad 20), .ref (ad 32), .int (f 0), .ref (ad 42), .ref (ad 36), .ref (ad 46), .ref (ad 45)]) := rfl
theorem shX_45 (G : gG) (ad : Nat → Nat) (f : Nat → Int32) : shX G ad 45 f = .inl (G.2.1 0, 7, .inl f) := rfl
theorem shX_46 (G : gG) (ad : Nat → Nat) (f : Nat → Int32) : shX G ad 46 f = .inl (G.2.1 3, 4, .inr (.inr (.inr (.inr (fun j => some (ad (47 + 2 * j))))))) := rfl
theorem shX_8 (G : gG) (ad : Nat → Nat) (f : Nat → Int32) : shX G ad 8 f = .inr (0, [.ref (ad 11), .ref (ad 9), .ref (ad 10), .int (f 0), .int (f 1), .int (f 2)]) := rfl
theorem shX_9 (G : gG) (ad : Nat → Nat) (f : Nat → Int32) : shX G ad 9 f = .inl (G.2.1 0, 6, .inl f) := rfl
theorem shX_10 (G : gG) (ad : Nat → Nat) (f : Nat → Int32) : shX G ad 10 f = .inl (G.2.1 0, 10, .inl f) := rfl
theorem shX_11 (G : gG) (ad : Nat → Nat) (f : Nat → Int32) : shX G ad 11 f = .inl (G.2.1 2, 8, .inr (.inr (.inr (.inr (fun j => some (ad j)))))) := rfl
theorem shX_32 (G : gG) (ad : Nat → Nat) (f : Nat → Int32) : shX G ad 32 f = .inr (0, [.ref (ad 35), .ref (ad 33), .ref (ad 34), .int (f 0), .int (f 1), .int (f 2)]) := rfl
theorem shX_35 (G : gG) (ad : Nat → Nat) (f : Nat → Int32) : shX G ad 35 f = .inl (G.2.1 2, 8, .inr (.inr (.inr (.inr (fun j => some (ad (24 + j))))))) := rfl
theorem shX_42 (G : gG) (ad : Nat → Nat) (f : Nat → Int32) : shX G ad 42 f = .inr (3, [.ref (ad 43), .int (f 0)]) := rfl
theorem shX_g (G : gG) (ad : Nat → Nat) {k : Nat} (h : k < 8) (f : Nat → Int32) : shX G ad k f = .inr (1, [.int (f 0), .int (f 1), .int (f 2), .int (f 3), .int (f 4), .int (f 5), .int (f 6)]) := by
  unfold shX shD
  rw [if_pos (by omega), if_pos (by omega)]
  exact shC_g G ad h f
theorem shX_t (G : gG) (ad : Nat → Nat) {k : Nat} (h : k < 8) (f : Nat → Int32) : shX G ad (24 + k) f = .inr (1, [.int (f 0), .int (f 1), .int (f 2), .int (f 3), .int (f 4), .int (f 5), .int (f 6)]) := by
  unfold shX
  rw [if_neg (by omega), if_pos (by omega), show 24 + k - 24 = k from by omega]
  exact shR_g G _ h f
theorem shX_s (G : gG) (ad : Nat → Nat) {j : Nat} (h : j < 4) (f : Nat → Int32) : shX G ad (47 + 2 * j) f = .inr (2, [.ref (ad (48 + 2 * j)), .int (f 0), .int (f 1)]) := by
  obtain rfl | rfl | rfl | rfl : j = 0 ∨ j = 1 ∨ j = 2 ∨ j = 3 := by omega
  all_goals rfl
theorem shX_n (G : gG) (ad : Nat → Nat) {j : Nat} (h : j < 4) (f : Nat → Int32) : shX G ad (48 + 2 * j) f = .inl (G.2.1 0, 40, .inl f) := by
  obtain rfl | rfl | rfl | rfl : j = 0 ∨ j = 1 ∨ j = 2 ∨ j = 3 := by omega
  all_goals rfl
theorem shX_club (G : gG) (ad : Nat → Nat) : ∀ i, i < 12 → ∀ f, shX G ad (0 + i) f = shC G (fun i => ad (0 + i)) i f := fun i hi f => by
  rw [Nat.zero_add]
  unfold shX shD
  rw [if_pos (by omega), if_pos hi]
  simp only [Nat.zero_add]
theorem shX_kept (G : gG) (ad : Nat → Nat) : ∀ i, i < 12 → ∀ f, shX G ad (12 + i) f = shC G (fun i => ad (12 + i)) i f := fun i hi f => by
  unfold shX shD
  rw [if_pos (by omega), if_neg (by omega)]
  congr 1
  omega
theorem shX_trial (G : gG) (ad : Nat → Nat) : ∀ i, i < 12 → ∀ f, shX G ad (24 + i) f = shC G (fun i => ad (24 + i)) i f := fun i hi f => by
  unfold shX shR
  rw [if_neg (by omega), if_pos (by omega), show 24 + i - 24 = i from by omega, if_pos hi]
theorem shX_reader (G : gG) (ad : Nat → Nat) : ∀ i, i < 20 → ∀ f, shX G ad (24 + i) f = shR G (fun i => ad (24 + i)) i f := fun i hi f => by
  unfold shX
  rw [if_neg (by omega), if_pos (by omega), show 24 + i - 24 = i from by omega]
theorem shX_glove (G : gG) (ad : Nat → Nat) {g : Nat} (hg : g < 8) : ∀ i, i < 1 → ∀ f, shX G ad (g + i) f = shG i f := fun i hi f => by
  obtain rfl : i = 0 := by omega
  exact shX_g G ad hg f
theorem shX_tg (G : gG) (ad : Nat → Nat) {g : Nat} (hg : g < 8) : ∀ i, i < 1 → ∀ f, shX G ad (24 + g + i) f = shG i f := fun i hi f => by
  obtain rfl : i = 0 := by omega
  exact shX_t G ad hg f
theorem shX_tape (G : gG) (ad : Nat → Nat) : ∀ i, i < 2 → ∀ f, shX G ad (42 + i) f = shP G (fun i => ad (42 + i)) i f := fun i hi f => by
  obtain rfl | rfl : i = 0 ∨ i = 1 := by omega
  · rfl
  · rfl
theorem shX_sheet (G : gG) (ad : Nat → Nat) {j : Nat} (h : j < 4) : ∀ i, i < 2 → ∀ f, shX G ad (47 + 2 * j + i) f = shS G (fun i => ad (47 + 2 * j + i)) i f := fun i hi f => by
  obtain rfl | rfl : i = 0 ∨ i = 1 := by omega
  · rw [Nat.add_zero, shX_s G ad h]
    show _ = (.inr (2, [.ref (ad (47 + 2 * j + 1)), .int (f 0), .int (f 1)]) : va_E)
    rw [show 47 + 2 * j + 1 = 48 + 2 * j from by omega]
  · rw [show 47 + 2 * j + 1 = 48 + 2 * j from by omega, shX_n G ad h]
    rfl
