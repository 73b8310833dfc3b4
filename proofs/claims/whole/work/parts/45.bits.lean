/-! ===== Int32 by its bits: bt x i ===== -/
def bt (x : Int32) (i : Nat) : Bool := x.toBitVec.getLsbD i
theorem b_ext {x y : Int32} (h : ∀ i, i < 32 → bt x i = bt y i) : x = y := Int32.toBitVec_inj.mp (BitVec.eq_of_getLsbD_eq (fun i hi => h i hi))
theorem b_or (x y : Int32) (i : Nat) : bt (x ||| y) i = (bt x i || bt y i) := by unfold bt; rw [Int32.toBitVec_or, BitVec.getLsbD_or]
theorem b_and (x y : Int32) (i : Nat) : bt (x &&& y) i = (bt x i && bt y i) := by unfold bt; rw [Int32.toBitVec_and, BitVec.getLsbD_and]
theorem b_xor (x y : Int32) (i : Nat) : bt (x ^^^ y) i = (bt x i ^^ bt y i) := by unfold bt; rw [Int32.toBitVec_xor, BitVec.getLsbD_xor]
theorem b_big {x : Int32} {i : Nat} (h : 32 ≤ i) : bt x i = false := BitVec.getLsbD_of_ge _ _ h
theorem b_255 (i : Nat) : bt 255 i = decide (i < 8) := by
  rcases Nat.lt_or_ge i 32 with h | h
  · exact (by decide +kernel : ∀ i, i < 32 → bt 255 i = decide (i < 8)) i h
  · rw [b_big h, decide_eq_false (by omega)]
theorem b_65535 (i : Nat) : bt 65535 i = decide (i < 16) := by
  rcases Nat.lt_or_ge i 32 with h | h
  · exact (by decide +kernel : ∀ i, i < 32 → bt 65535 i = decide (i < 16)) i h
  · rw [b_big h, decide_eq_false (by omega)]
theorem b_m1 : ∀ i, i < 32 → bt (-1) i = true := by decide +kernel
theorem b_0 (i : Nat) : bt 0 i = false := BitVec.getLsbD_zero
theorem s_l : ∀ n, n < 32 → ((nI n &&& 31).toBitVec.smod 32).toNat = n := by decide +kernel
theorem s_u : ∀ n, n < 32 → (((nI n).toUInt32 &&& Int32.toUInt32 31).toBitVec % 32).toNat = n := by decide +kernel
theorem b_shl (n : Nat) (hn : n < 32) (x : Int32) {i : Nat} (hi : i < 32) : bt (x <<< (nI n &&& 31)) i = (decide (n ≤ i) && bt x (i - n)) := by
  unfold bt
  rw [Int32.toBitVec_shiftLeft]
  show (x.toBitVec <<< ((nI n &&& 31).toBitVec.smod 32).toNat).getLsbD i = _
  rw [s_l n hn, BitVec.getLsbD_shiftLeft]
  rcases Nat.lt_or_ge i n with h | h
  · simp [h, Nat.not_le.mpr h]
  · simp [hi, h, Nat.not_lt.mpr h]
theorem b_ushr (n : Nat) (hn : n < 32) (x : Int32) (i : Nat) : bt ((x.toUInt32 >>> ((nI n).toUInt32 &&& Int32.toUInt32 31)).toInt32) i = bt x (n + i) := by
  show (x.toUInt32 >>> ((nI n).toUInt32 &&& Int32.toUInt32 31)).toBitVec.getLsbD i = x.toUInt32.toBitVec.getLsbD (n + i)
  rw [UInt32.toBitVec_shiftRight]
  show (x.toUInt32.toBitVec >>> (((nI n).toUInt32 &&& Int32.toUInt32 31).toBitVec % 32).toNat).getLsbD i = _
  rw [s_u n hn, BitVec.getLsbD_ushiftRight]
theorem b_sshr (n : Nat) (hn : n < 32) (x : Int32) {i : Nat} (hi : i < 32) : bt (x >>> (nI n &&& 31)) i = if n + i < 32 then bt x (n + i) else bt x 31 := by
  unfold bt
  rw [Int32.toBitVec_shiftRight]
  show (x.toBitVec.sshiftRight ((nI n &&& 31).toBitVec.smod 32).toNat).getLsbD i = _
  rw [s_l n hn, BitVec.getLsbD_sshiftRight, BitVec.msb_eq_getLsbD_last]
  simp [hi]
theorem b_shl8 (x : Int32) {i : Nat} (hi : i < 32) : bt (x <<< ((8 : Int32) &&& 31)) i = (decide (8 ≤ i) && bt x (i - 8)) := b_shl 8 (by omega) x hi
theorem b_shl16 (x : Int32) {i : Nat} (hi : i < 32) : bt (x <<< ((16 : Int32) &&& 31)) i = (decide (16 ≤ i) && bt x (i - 16)) := b_shl 16 (by omega) x hi
theorem b_shl24 (x : Int32) {i : Nat} (hi : i < 32) : bt (x <<< ((24 : Int32) &&& 31)) i = (decide (24 ≤ i) && bt x (i - 24)) := b_shl 24 (by omega) x hi
theorem b_sshr8 (x : Int32) {i : Nat} (hi : i < 32) : bt (x >>> ((8 : Int32) &&& 31)) i = if 8 + i < 32 then bt x (8 + i) else bt x 31 := b_sshr 8 (by omega) x hi
/-! ===== nI under and, xor, >>>, one bit, 65535 ===== -/
theorem nx_and (a b : Nat) : nI a &&& nI b = nI (a &&& b) := by
  apply Int32.toBitVec_inj.1
  show BitVec.ofNat 32 a &&& BitVec.ofNat 32 b = BitVec.ofNat 32 (a &&& b)
  apply BitVec.eq_of_getLsbD_eq
  intro i hi
  simp [hi]
theorem nx_xor (a b : Nat) : nI a ^^^ nI b = nI (a ^^^ b) := by
  apply Int32.toBitVec_inj.1
  show BitVec.ofNat 32 a ^^^ BitVec.ofNat 32 b = BitVec.ofNat 32 (a ^^^ b)
  apply BitVec.eq_of_getLsbD_eq
  intro i hi
  simp [hi]

/-! ===== sets as bits, of one's own ===== -/
theorem bt_nI {n : Nat} (hn : n < 2 ^ 32) {j : Nat} (hj : j < 32) : bt (nI n) j = n.testBit j := by
  show (BitVec.ofNat 32 n).getLsbD j = _
  rw [BitVec.getLsbD_ofNat]
  simp [hj]
theorem bt_shl1 {i g : Nat} (hi : i < 32) (hg : g < 32) : bt (jshl 1 (nI i)) g = decide (g = i) := by
  unfold jshl
  rw [b_shl i hi 1 hg]
  have h1 : bt (1 : Int32) (g - i) = decide (g - i = 0) := by
    have := bt_nI (n := 1) (by decide) (j := g - i) (by omega)
    rw [show (nI 1 : Int32) = 1 from rfl] at this
    rw [this, show (1 : Nat) = 2 ^ 0 from rfl, Nat.testBit_two_pow]
    by_cases h : g - i = 0
    · rw [h]
    · rw [decide_eq_false (by omega), decide_eq_false h]
  rw [h1]
  by_cases h : g = i
  · subst h
    simp
  · rw [decide_eq_false h]
    by_cases h2 : i ≤ g
    · rw [decide_eq_true h2, Bool.true_and, decide_eq_false (by omega)]
    · rw [decide_eq_false h2, Bool.false_and]
theorem bt_one {x : Int32} : (x &&& 1 = 1 ↔ bt x 0 = true) ∧ (x &&& 1 = 0 ↔ bt x 0 = false) := by
  have h0 : bt (x &&& 1) 0 = bt x 0 := by
    rw [b_and, show bt (1 : Int32) 0 = true from by decide, Bool.and_true]
  have h1 : ∀ i, i < 32 → i ≠ 0 → bt (x &&& 1) i = false := by
    intro i hi hne
    rw [b_and, show bt (1 : Int32) i = false from (by decide +kernel : ∀ i, i < 32 → i ≠ 0 → bt (1 : Int32) i = false) i hi hne, Bool.and_false]
  cases hb : bt x 0
  · have e : x &&& 1 = 0 := b_ext (fun i hi => by
      by_cases h : i = 0
      · rw [h, h0, hb, b_0]
      · rw [h1 i hi h, b_0])
    rw [e]
    decide
  · have e : x &&& 1 = 1 := b_ext (fun i hi => by
      by_cases h : i = 0
      · rw [h, h0, hb]; decide
      · rw [h1 i hi h]; exact ((by decide +kernel : ∀ i, i < 32 → i ≠ 0 → bt (1 : Int32) i = false) i hi h).symm)
    rw [e]
    decide
theorem bt_shr0 {s : Int32} {g : Nat} (hg : g < 32) : bt (jshr s (nI g)) 0 = bt s g := by
  unfold jshr
  rw [b_sshr g hg s (by decide), if_pos (by omega), Nat.add_zero]
theorem bt_s1 {s : Int32} {g : Nat} (hg : g < 32) : ((jshr s (nI g)) &&& 1 = 1) ↔ bt s g = true := by
  rw [bt_one.1, bt_shr0 hg]
theorem bt_s0 {s : Int32} {g : Nat} (hg : g < 32) : ((jshr s (nI g)) &&& 1 = 0) ↔ bt s g = false := by
  rw [bt_one.2, bt_shr0 hg]
theorem bt_in {s : Int32} {g : Nat} (hg : g < 32) : (x_isIn (nI g) s = 0) ↔ bt s g = false := by
  unfold x_isIn
  by_cases h : (jshr s (nI g)) &&& 1 = 1
  · rw [if_pos h, (bt_s1 hg).mp h]
    decide
  · rw [if_neg h]
    have : ¬ bt s g = true := fun q => h ((bt_s1 hg).mpr q)
    cases hb : bt s g
    · exact ⟨fun _ => rfl, fun _ => rfl⟩
    · exact absurd hb this
theorem bt_not {s : Int32} {g : Nat} (hg : g < 32) : bt (s ^^^ (-1)) g = !bt s g := by
  rw [b_xor, b_m1 g hg, Bool.xor_true]
theorem or_nI (a b : Nat) : nI a ||| nI b = nI (a ||| b) := by
  apply Int32.toBitVec_inj.1
  show BitVec.ofNat 32 a ||| BitVec.ofNat 32 b = BitVec.ofNat 32 (a ||| b)
  apply BitVec.eq_of_getLsbD_eq
  intro i hi
  simp [hi]
theorem shl_nI {i : Nat} (hi : i < 31) : jshl 1 (nI i) = nI (2 ^ i) := by
  refine b_ext (fun g hg => ?_)
  have hlt : 2 ^ i < 2 ^ 32 := Nat.pow_lt_pow_right (by decide) (by omega)
  rw [bt_shl1 (by omega) hg, bt_nI hlt hg, Nat.testBit_two_pow]
  by_cases h : g = i
  · rw [decide_eq_true h, decide_eq_true h.symm]
  · rw [decide_eq_false h, decide_eq_false (fun q => h q.symm)]
theorem not_lt {n m k : Nat} : n < 2 ^ k → m < 2 ^ k → n ||| m < 2 ^ k := fun h1 h2 => Nat.or_lt_two_pow h1 h2
/-! ===== how many ===== -/
def pcn (n : Nat) : Nat := n % 2 + n / 2 % 2 + n / 4 % 2 + n / 8 % 2 + n / 16 % 2 + n / 32 % 2 + n / 64 % 2 + n / 128 % 2 + n / 256 % 2 + n / 512 % 2 + n / 1024 % 2 + n / 2048 % 2 + n / 4096 % 2 + n / 8192 % 2 + n / 16384 % 2 + n / 32768 % 2
theorem shr_bit {n : Nat} (hn : n < 2 ^ 31) {i : Nat} (hi : i < 31) : (jshr (nI n) (nI i)) &&& 1 = nI (n / 2 ^ i % 2) := by
  unfold jshr
  rw [pk_shrN hn _ i (s_l i (by omega))]
  show nI (n / 2 ^ i) &&& nI 1 = _
  rw [nx_and, Nat.and_one_is_mod]
theorem ones_is {n : Nat} (hn : n < 2 ^ 31) : m_ones (nI n) = nI (pcn n) := by
  unfold m_ones
  simp only [m_ones_L4]
  rw [shr_bit hn (by decide), shr_bit hn (by decide), shr_bit hn (by decide), shr_bit hn (by decide), shr_bit hn (by decide), shr_bit hn (by decide), shr_bit hn (by decide), shr_bit hn (by decide), shr_bit hn (by decide), shr_bit hn (by decide), shr_bit hn (by decide), shr_bit hn (by decide), shr_bit hn (by decide), shr_bit hn (by decide), shr_bit hn (by decide), shr_bit hn (by decide)]
  show nI 0 + _ + _ + _ + _ + _ + _ + _ + _ + _ + _ + _ + _ + _ + _ + _ + _ = _
  simp only [nI_add, Nat.zero_add]
  unfold pcn
  congr 1
  simp only [Nat.pow_zero, Nat.div_one]
def sw1 (n : Nat) : Nat := n - (n / 2 &&& 1431655765)
def sw2 (n : Nat) : Nat := (sw1 n &&& 858993459) + (sw1 n / 4 &&& 858993459)
def sw3 (n : Nat) : Nat := (sw2 n + sw2 n / 16) &&& 252645135
def sw4 (n : Nat) : Nat := sw3 n + sw3 n / 256
def sw5 (n : Nat) : Nat := sw4 n + sw4 n / 65536
def sw6 (n : Nat) : Nat := sw5 n &&& 63
theorem ush_nI {n : Nat} (hn : n < 2 ^ 32) {i : Nat} (hi : i < 32) : jushr (nI n) (nI i) = nI (n / 2 ^ i) := pk_ushrN hn _ i (s_u i hi)
theorem bc_sw {n : Nat} (hn : n < 65536) : j_bitCount (nI n) = nI (sw6 n) := by
  have l1 : n / 2 &&& 1431655765 ≤ n := Nat.le_trans Nat.and_le_left (Nat.div_le_self _ _)
  have e1 : nI n - (jushr (nI n) 1 &&& 1431655765) = nI (sw1 n) := by
    rw [show (1 : Int32) = nI 1 from rfl, ush_nI (by omega) (by decide), show (1431655765 : Int32) = nI 1431655765 from rfl, nx_and, pk_sub l1]
    rfl
  have b1 : sw1 n ≤ n := Nat.sub_le _ _
  have e2 : (nI (sw1 n) &&& 858993459) + (jushr (nI (sw1 n)) 2 &&& 858993459) = nI (sw2 n) := by
    rw [show (2 : Int32) = nI 2 from rfl, ush_nI (by omega) (by decide), show (858993459 : Int32) = nI 858993459 from rfl, nx_and, nx_and, nI_add]
    rfl
  have b2 : sw2 n ≤ 2 * n := by
    have h1 : sw1 n &&& 858993459 ≤ sw1 n := Nat.and_le_left
    have h2 : sw1 n / 4 &&& 858993459 ≤ sw1 n / 4 := Nat.and_le_left
    unfold sw2
    omega
  have e3 : (nI (sw2 n) + jushr (nI (sw2 n)) 4) &&& 252645135 = nI (sw3 n) := by
    rw [show (4 : Int32) = nI 4 from rfl, ush_nI (by omega) (by decide), nI_add, show (252645135 : Int32) = nI 252645135 from rfl, nx_and]
    rfl
  have b3 : sw3 n ≤ 4 * n := by
    have h1 : (sw2 n + sw2 n / 16) &&& 252645135 ≤ sw2 n + sw2 n / 16 := Nat.and_le_left
    unfold sw3
    omega
  have e4 : nI (sw3 n) + jushr (nI (sw3 n)) 8 = nI (sw4 n) := by
    rw [show (8 : Int32) = nI 8 from rfl, ush_nI (by omega) (by decide), nI_add]
    rfl
  have b4 : sw4 n ≤ 8 * n := by
    unfold sw4
    omega
  have e5 : nI (sw4 n) + jushr (nI (sw4 n)) 16 = nI (sw5 n) := by
    rw [show (16 : Int32) = nI 16 from rfl, ush_nI (by omega) (by decide), nI_add]
    rfl
  unfold j_bitCount
  rw [e1, e2, e3, e4, e5]
  show nI (sw5 n) &&& nI 63 = _
  rw [nx_and]
  rfl
theorem and_256 {a l m k : Nat} (hl : l < 256) (hk : k < 256) : (256 * a + l) &&& (256 * m + k) = 256 * (a &&& m) + (l &&& k) := by
  apply Nat.eq_of_testBit_eq
  intro j
  have h1 := Nat.testBit_two_pow_mul_add (i := 8) a (b := l) hl j
  have h2 := Nat.testBit_two_pow_mul_add (i := 8) m (b := k) hk j
  have h3 := Nat.testBit_two_pow_mul_add (i := 8) (a &&& m) (b := l &&& k) (Nat.lt_of_le_of_lt Nat.and_le_left hl) j
  rw [show (2 : Nat) ^ 8 = 256 from rfl] at h1 h2 h3
  rw [Nat.testBit_and, h1, h2, h3]
  split
  · rw [Nat.testBit_and]
  · rw [Nat.testBit_and]
def swA (x : Nat) : Nat := x - (x / 2 &&& 85)
def swB (x : Nat) : Nat := (x &&& 51) + (x / 4 &&& 51)
def swC (x : Nat) : Nat := (x + x / 16) % 16
def pcb (n : Nat) : Nat := n % 2 + n / 2 % 2 + n / 4 % 2 + n / 8 % 2 + n / 16 % 2 + n / 32 % 2 + n / 64 % 2 + n / 128 % 2
theorem sw_a1 : ∀ b, b < 2 → ∀ x, x < 128 → (128 * b + x) &&& 85 = x &&& 85 := by decide +kernel
theorem sw_a2 : ∀ x, x < 256 → x / 2 &&& 5592405 = x / 2 &&& 85 := by decide +kernel
theorem sw_b1 : ∀ b, b < 4 → ∀ x, x < 64 → (64 * b + x) &&& 51 = x &&& 51 := by decide +kernel
theorem sw_b2 : ∀ x, x < 256 → (x &&& 3355443 = x &&& 51) ∧ (x / 4 &&& 3355443 = x / 4 &&& 51) := by decide +kernel
theorem sw_u : ∀ x, x < 256 → swA x < 256 ∧ swB (swA x) ≤ 68 ∧ swB (swA x) % 16 ≤ 4 ∧ swC (swB (swA x)) = pcb x ∧ pcb x ≤ 8 := by decide +kernel
theorem sw_c2 : ∀ x, x ≤ 72 → x &&& 986895 = x % 16 := by decide +kernel
theorem sw_1 {h l : Nat} (hh : h < 256) (hl : l < 256) : sw1 (256 * h + l) = 256 * swA h + swA l := by
  unfold sw1 swA
  have e1 : (256 * h + l) / 2 = 256 * (h / 2) + (128 * (h % 2) + l / 2) := by omega
  rw [e1, show (1431655765 : Nat) = 256 * 5592405 + 85 from rfl, and_256 (by omega) (by decide), sw_a1 (h % 2) (by omega) (l / 2) (by omega), sw_a2 h hh]
  have i1 : h / 2 &&& 85 ≤ h := Nat.le_trans Nat.and_le_left (Nat.div_le_self _ _)
  have i2 : l / 2 &&& 85 ≤ l := Nat.le_trans Nat.and_le_left (Nat.div_le_self _ _)
  omega
theorem sw_2 {h l : Nat} (hh : h < 256) (hl : l < 256) : sw2 (256 * h + l) = 256 * swB (swA h) + swB (swA l) := by
  unfold sw2
  rw [sw_1 hh hl]
  have hp := (sw_u h hh).1
  have hq := (sw_u l hl).1
  generalize swA h = p at hp ⊢
  generalize swA l = q at hq ⊢
  have e1 : (256 * p + q) / 4 = 256 * (p / 4) + (64 * (p % 4) + q / 4) := by omega
  rw [e1, show (858993459 : Nat) = 256 * 3355443 + 51 from rfl, and_256 (by omega) (by decide), and_256 (by omega) (by decide), sw_b1 (p % 4) (by omega) (q / 4) (by omega), (sw_b2 p hp).1, (sw_b2 p hp).2]
  unfold swB
  omega
theorem sw_3 {h l : Nat} (hh : h < 256) (hl : l < 256) : sw3 (256 * h + l) = 256 * pcb h + pcb l := by
  unfold sw3
  rw [sw_2 hh hl]
  obtain ⟨-, u1, u2, u3, -⟩ := sw_u h hh
  obtain ⟨-, v1, v2, v3, -⟩ := sw_u l hl
  generalize swB (swA h) = u at u1 u2 u3 ⊢
  generalize swB (swA l) = v at v1 v2 v3 ⊢
  have e1 : 256 * u + v + (256 * u + v) / 16 = 256 * (u + u / 16) + (v + 16 * (u % 16) + v / 16) := by omega
  rw [e1, show (252645135 : Nat) = 256 * 986895 + 15 from rfl, and_256 (by omega) (by decide), sw_c2 _ (by omega), show (15 : Nat) = 2 ^ 4 - 1 from rfl, Nat.and_two_pow_sub_one_eq_mod]
  unfold swC at u3 v3
  omega
theorem sw_pc {h l : Nat} (hh : h < 256) (hl : l < 256) : sw6 (256 * h + l) = pcn (256 * h + l) := by
  have e3 := sw_3 hh hl
  obtain ⟨-, -, -, -, u5⟩ := sw_u h hh
  obtain ⟨-, -, -, -, v5⟩ := sw_u l hl
  have hp : pcn (256 * h + l) = pcb l + pcb h := by
    unfold pcn pcb
    have a0 : (256 * h + l) % 2 = l % 2 := by omega
    have a1 : (256 * h + l) / 2 % 2 = l / 2 % 2 := by omega
    have a2 : (256 * h + l) / 4 % 2 = l / 4 % 2 := by omega
    have a3 : (256 * h + l) / 8 % 2 = l / 8 % 2 := by omega
    have a4 : (256 * h + l) / 16 % 2 = l / 16 % 2 := by omega
    have a5 : (256 * h + l) / 32 % 2 = l / 32 % 2 := by omega
    have a6 : (256 * h + l) / 64 % 2 = l / 64 % 2 := by omega
    have a7 : (256 * h + l) / 128 % 2 = l / 128 % 2 := by omega
    have b0 : (256 * h + l) / 256 % 2 = h % 2 := by omega
    have b1 : (256 * h + l) / 512 % 2 = h / 2 % 2 := by omega
    have b2 : (256 * h + l) / 1024 % 2 = h / 4 % 2 := by omega
    have b3 : (256 * h + l) / 2048 % 2 = h / 8 % 2 := by omega
    have b4 : (256 * h + l) / 4096 % 2 = h / 16 % 2 := by omega
    have b5 : (256 * h + l) / 8192 % 2 = h / 32 % 2 := by omega
    have b6 : (256 * h + l) / 16384 % 2 = h / 64 % 2 := by omega
    have b7 : (256 * h + l) / 32768 % 2 = h / 128 % 2 := by omega
    rw [a0, a1, a2, a3, a4, a5, a6, a7, b0, b1, b2, b3, b4, b5, b6, b7]
    omega
  rw [hp]
  unfold sw6 sw5 sw4
  rw [e3, show (63 : Nat) = 2 ^ 6 - 1 from rfl, Nat.and_two_pow_sub_one_eq_mod]
  clear hp e3
  generalize pcb h = x at u5 ⊢
  generalize pcb l = y at v5 ⊢
  have d1 : (256 * x + y) / 256 = x := by omega
  rw [d1]
  have d2 : (256 * x + y + x) / 65536 = 0 := by omega
  rw [d2]
  omega
theorem bc_is {n : Nat} (hn : n < 65536) : j_bitCount (nI n) = nI (pcn n) := by
  have h := sw_pc (h := n / 256) (l := n % 256) (by omega) (Nat.mod_lt _ (by decide))
  rw [Nat.div_add_mod] at h
  rw [bc_sw hn, h]
theorem pcn_le (n : Nat) : pcn n ≤ 16 := by
  unfold pcn
  omega
