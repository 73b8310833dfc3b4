/-! a glove and its places in the row; days -/
def GRl (γ d : Nat → Int32) (g : Nat) : Prop := ∀ w, w < 7 → γ w = d (9 + 8 * w + g) ∧ NB (bnd w) (d (9 + 8 * w + g))
theorem RC.gr {c : gM} {d : Nat → Int32} {N : Nat} (h : RC c d N) {g : Nat} (hg : g < N) : GRl (c g) d g := fun w hw => h.gl hg hw
theorem GRl.v {γ d : Nat → Int32} {g : Nat} (h : GRl γ d g) {w : Nat} (hw : w < 7) : ∃ v, v ≤ bnd w ∧ γ w = nI v ∧ d (9 + 8 * w + g) = nI v := by
  obtain ⟨e, v, hv, ev⟩ := h w hw
  exact ⟨v, hv, e.trans ev, ev⟩
theorem upd_at (f : Nat → Int32) (k : Nat) (x : Int32) : upd f k x k = x := if_pos rfl
theorem upd_ne (f : Nat → Int32) {k j : Nat} (x : Int32) (h : j ≠ k) : upd f k x j = f j := if_neg h
theorem sets_at {μ : gM} {g w : Nat} {v : Int32} : (m_sets μ g w v) 1 (9 + 8 * w + g) = v := by
  unfold m_sets
  rw [mset_at, upd_at]
theorem sets_ne {μ : gM} {g w j : Nat} {v : Int32} (h : j ≠ 9 + 8 * w + g) : (m_sets μ g w v) 1 j = μ 1 j := by
  unfold m_sets
  rw [mset_at, upd_ne _ _ h]
theorem its_sets {μ : gM} {g w w' : Nat} {v : Int32} : m_its (m_sets μ g w v) g w' = if w' = w then v else m_its μ g w' := by
  unfold m_its
  by_cases h : w' = w
  · subst h
    rw [if_pos rfl, sets_at]
  · rw [if_neg h, sets_ne (by omega)]
theorem GRl.set {γ : Nat → Int32} {μ : gM} {g w : Nat} {v : Int32} (h : GRl γ (μ 1) g) (hw : w < 7) (hv : NB (bnd w) v) : GRl (upd γ w v) ((m_sets μ g w v) 1) g := by
  intro w' hw'
  by_cases e : w' = w
  · subst e
    rw [upd_at, sets_at]
    exact ⟨rfl, hv⟩
  · rw [upd_ne _ _ e, sets_ne (by omega)]
    exact h w' hw'
theorem GRl.other {γ : Nat → Int32} {μ : gM} {g g' w : Nat} {v : Int32} (h : GRl γ (μ 1) g') (hg : g < 8) (hg' : g' < 8) (hne : g' ≠ g) : GRl γ ((m_sets μ g w v) 1) g' := by
  intro w' hw'
  rw [sets_ne (by omega)]
  exact h w' hw'
def kpx (k : Int32) : Int32 := if x_isWithin k 6 = 0 then 0 else tb_keeps.getD (nN k) 0
def stx (k : Int32) : Int32 := if x_isWithin k 6 = 0 then 0 else tb_stays.getD (nN k) 0
theorem kp_v : ∀ v, v ≤ 6 → kpx (nI v) = (if nI v = 1 then 8 else (if nI v = 2 then 3 else (if nI v = 3 then 3 else (if nI v = 4 then 3 else (if nI v = 5 then 16 else (if nI v = 6 then 10 else 6)))))) := by decide +kernel
theorem st_v : ∀ v, v ≤ 6 → stx (nI v) = (if nI v = 1 then 5 else (if nI v = 2 then 14 else (if nI v = 3 then 14 else (if nI v = 4 then 0 else (if nI v = 5 then 0 else (if nI v = 6 then 5 else 7)))))) := by decide +kernel
theorem keeps_is {μ : gM} {g : Nat} {k : Int32} (hk : m_its μ g 0 = k) (h : NB 6 k) : m_keeps μ g = kpx k := by
  obtain ⟨v, hv, rfl⟩ := h
  unfold m_keeps
  rw [hk, kp_v v hv]
theorem stays_is {μ : gM} {g : Nat} {k : Int32} (hk : m_its μ g 0 = k) (h : NB 6 k) : m_stays μ g = stx k := by
  obtain ⟨v, hv, rfl⟩ := h
  unfold m_stays
  rw [hk, st_v v hv]
/-! what it takes in -/
def tI (γ : Nat → Int32) (T : Int32) : Nat → Int32 := (x_takeIn1 (fun _ => γ) T) 0
def tK (γ : Nat → Int32) (T : Int32) : Int32 := if j_bitCount (γ 3 ||| jshl 1 T) ≤ kpx (γ 0) then (γ 3 ||| jshl 1 T) else ((jshl 1 T) ||| ((((γ 3) ||| (jshl 1 T)) &&& ((jshl 1 T) ^^^ (-1))) &&& ((((γ 3) ||| (jshl 1 T)) &&& ((jshl 1 T) ^^^ (-1))) - 1)))
theorem take_form (ρ : gM) (T : Int32) : (x_takeIn1 ρ T) 0 = upd (ρ 0) 3 (tK (ρ 0) T) := by
  unfold x_takeIn1 tK
  have hk : x_keeps1 (mset ρ 0 3 ((ρ 0 3) ||| (jshl 1 T))) = kpx (ρ 0 0) := rfl
  rw [hk]
  by_cases h : j_bitCount (ρ 0 3 ||| jshl 1 T) ≤ kpx (ρ 0 0)
  · rw [if_pos h, if_pos h, mset_at]
  · rw [if_neg h, if_neg h, mset_at, mset_at]
    funext j
    by_cases hj : j = 3
    · rw [hj, upd_at, upd_at]
    · rw [upd_ne _ _ hj, upd_ne _ _ hj, upd_ne _ _ hj]
theorem tI_is (γ : Nat → Int32) (T : Int32) : tI γ T = upd γ 3 (tK γ T) := take_form (fun _ => γ) T
theorem learnL {μ : gM} {g : Nat} {T : Int32} : ∀ (n i : Nat), i + n = 16 → (∃ b, i ≤ b ∧ b < 16 ∧ ¬ ((jshr (m_its μ g 3 ||| jshl 1 T) (nI b)) &&& 1) = 0 ∧ ¬ nI b = T) → ∃ k, i ≤ k ∧ k < 16 ∧ (¬ ((jshr (m_its μ g 3 ||| jshl 1 T) (nI k)) &&& 1) = 0) ∧ (¬ nI k = T) ∧ (∀ j, i ≤ j → j < k → ((jshr (m_its μ g 3 ||| jshl 1 T) (nI j)) &&& 1) = 0 ∨ nI j = T) ∧ m_learns_L26 μ g T n i = m_sets μ g 3 ((m_its μ g 3 ||| jshl 1 T) &&& ((jshl 1 (nI k)) ^^^ (-1))) := by
  intro n
  induction n with
  | zero => intro i hi h; obtain ⟨b, h1, h2, -⟩ := h; omega
  | succ n ih =>
    intro i hi h
    rw [m_learns_L26]
    by_cases h1 : ((jshr (m_its μ g 3 ||| jshl 1 T) (nI i)) &&& 1) = 0
    · rw [if_pos h1]
      obtain ⟨b, q1, q2, q3, q4⟩ := h
      obtain ⟨k, r1, r2, r3, r4, r5, r6⟩ := ih (i + 1) (by omega) ⟨b, by
        rcases Nat.lt_or_ge i b with z | z
        · omega
        · have : b = i := by omega
          rw [this] at q3
          exact absurd h1 q3, q2, q3, q4⟩
      refine ⟨k, by omega, r2, r3, r4, fun j j1 j2 => ?_, r6⟩
      by_cases e : j = i
      · rw [e]; exact Or.inl h1
      · exact r5 j (by omega) j2
    · rw [if_neg h1]
      by_cases h2 : (nI i) = T
      · rw [if_pos h2]
        obtain ⟨b, q1, q2, q3, q4⟩ := h
        obtain ⟨k, r1, r2, r3, r4, r5, r6⟩ := ih (i + 1) (by omega) ⟨b, by
          rcases Nat.lt_or_ge i b with z | z
          · omega
          · have : b = i := by omega
            rw [this] at q4
            exact absurd h2 q4, q2, q3, q4⟩
        refine ⟨k, by omega, r2, r3, r4, fun j j1 j2 => ?_, r6⟩
        by_cases e : j = i
        · rw [e]; exact Or.inr h2
        · exact r5 j (by omega) j2
      · rw [if_neg h2]
        exact ⟨i, Nat.le_refl _, by omega, h1, h2, fun j j1 j2 => by omega, rfl⟩
theorem low_bit {m k : Nat} (hk : m.testBit k = true) (hlo : ∀ j, j < k → m.testBit j = false) : ∀ j, (m &&& (m - 1)).testBit j = (m.testBit j && decide (j ≠ k)) := by
  obtain ⟨q, hq⟩ : ∃ q, m = 2 ^ (k + 1) * q + 2 ^ k := by
    refine ⟨m / 2 ^ (k + 1), ?_⟩
    have e : m % 2 ^ (k + 1) = 2 ^ k := by
      apply Nat.eq_of_testBit_eq
      intro j
      rw [Nat.testBit_mod_two_pow, Nat.testBit_two_pow]
      by_cases h1 : j < k
      · rw [hlo j h1, Bool.and_false, decide_eq_false (by omega)]
      · by_cases h2 : j = k
        · subst h2
          rw [hk, decide_eq_true (show j < j + 1 by omega), decide_eq_true (rfl : j = j)]
          rfl
        · rw [decide_eq_false (show ¬ j < k + 1 by omega), Bool.false_and, decide_eq_false (by omega)]
    have := Nat.div_add_mod m (2 ^ (k + 1))
    rw [e] at this
    exact this.symm
  have hp : 0 < 2 ^ k := Nat.two_pow_pos k
  have hlt : 2 ^ k < 2 ^ (k + 1) := Nat.pow_lt_pow_right (by decide) (by omega)
  have h1 : m - 1 = 2 ^ (k + 1) * q + (2 ^ k - 1) := by omega
  intro j
  rw [Nat.testBit_and, h1, Nat.testBit_two_pow_mul_add q (by omega) j]
  have h2 := Nat.testBit_two_pow_mul_add q hlt j
  rw [← hq] at h2
  by_cases hj : j < k + 1
  · rw [if_pos hj, Nat.testBit_two_pow_sub_one]
    by_cases h3 : j = k
    · rw [decide_eq_false (show ¬ j < k by omega), Bool.and_false, decide_eq_false (by omega), Bool.and_false]
    · rw [hlo j (by omega), Bool.false_and, Bool.false_and]
  · rw [if_neg hj]
    rw [if_neg hj] at h2
    rw [h2, decide_eq_true (show j ≠ k by omega), Bool.and_self, Bool.and_true]
theorem xor_clear {n t : Nat} (h : n.testBit t = true) (j : Nat) : (n ^^^ 2 ^ t).testBit j = (n.testBit j && decide (j ≠ t)) := by
  rw [Nat.testBit_xor, Nat.testBit_two_pow]
  by_cases e : j = t
  · subst e
    rw [h, decide_eq_true rfl, decide_eq_false (by omega)]
    rfl
  · rw [decide_eq_false (fun q => e q.symm), Bool.xor_false, decide_eq_true e, Bool.and_true]
theorem take_eq {γ : Nat → Int32} {μ : gM} {g : Nat} (hg : g < 8) (h : GRl γ (μ 1) g) {t : Nat} (ht : t < 16) : m_learns μ g (nI t) = m_sets μ g 3 (tK γ (nI t)) ∧ NB 65535 (tK γ (nI t)) := by
  obtain ⟨v0, hv0, e0, d0⟩ := h.v (w := 0) (by decide)
  obtain ⟨k, hk, e3, d3⟩ := h.v (w := 3) (by decide)
  have hk2 : k ≤ 65535 := hk
  have m0 : m_its μ g 0 = nI v0 := d0
  have m3 : m_its μ g 3 = nI k := d3
  have hS : (nI k ||| jshl 1 (nI t)) = nI (k ||| 2 ^ t) := by rw [shl_nI (by omega), or_nI]
  have ht2 : 2 ^ t < 2 ^ 16 := Nat.pow_lt_pow_right (by decide) ht
  have hn : k ||| 2 ^ t < 65536 := Nat.or_lt_two_pow (n := 16) (by omega) ht2
  have hnt : (k ||| 2 ^ t).testBit t = true := by rw [Nat.testBit_or, Nat.testBit_two_pow_self, Bool.or_true]
  have hkp := keeps_is m0 ⟨v0, hv0, rfl⟩
  unfold m_learns tK
  rw [m3, e3, e0, hkp, hS, bc_is hn, ones_is (by omega)]
  by_cases c1 : nI (pcn (k ||| 2 ^ t)) ≤ kpx (nI v0)
  · rw [if_pos c1, if_pos c1]
    exact ⟨rfl, _, by omega, rfl⟩
  · rw [if_neg c1, if_neg c1]
    have h3 : (3 : Int32) ≤ kpx (nI v0) := by rw [← hkp]; exact keeps_3 _ _
    have hex := ones_two (S := nI (k ||| 2 ^ t)) (K := kpx (nI v0)) (nI t) h3 (by rw [ones_is (by omega)]; exact c1)
    have hSm : (m_its μ g 3 ||| jshl 1 (nI t)) = nI (k ||| 2 ^ t) := by rw [m3, hS]
    obtain ⟨q, q1, q2, q3, q4, q5, q6⟩ := learnL (μ := μ) (g := g) (T := nI t) 16 0 rfl (by rw [hSm]; exact hex)
    rw [hSm] at q3 q5 q6
    rw [q6]
    obtain ⟨n, en⟩ : ∃ n, n = k ||| 2 ^ t := ⟨_, rfl⟩
    rw [← en] at hn hnt q3 q5 ⊢
    have hqt : q ≠ t := fun e => q4 (by rw [e])
    have hb : ∀ j, j < 32 → bt (nI n) j = n.testBit j := fun j hj => bt_nI (by omega) hj
    have hbig : ∀ j, 16 ≤ j → n.testBit j = false := fun j hj => Nat.testBit_lt_two_pow (Nat.lt_of_lt_of_le hn (by rw [show (65536 : Nat) = 2 ^ 16 from rfl]; exact Nat.pow_le_pow_right (by decide) hj))
    have hq : n.testBit q = true := by
      rw [← hb q (by omega)]
      cases z : bt (nI n) q
      · exact absurd ((bt_s0 (by omega)).mpr z) q3
      · rfl
    have hlow : ∀ j, j < q → j ≠ t → n.testBit j = false := fun j hj hne => by
      rw [← hb j (by omega)]
      rcases q5 j (Nat.zero_le _) hj with z | z
      · exact (bt_s0 (by omega)).mp z
      · exact absurd ((nI_eq (by omega) (by omega)).mp z) hne
    -- the others
    have ho : (nI n &&& ((jshl 1 (nI t)) ^^^ (-1))) = nI (n ^^^ 2 ^ t) := by
      have hx : n ^^^ 2 ^ t < 65536 := Nat.xor_lt_two_pow (n := 16) hn ht2
      refine b_ext (fun j hj => ?_)
      rw [b_and, bt_not hj, bt_shl1 (by omega) hj, hb j hj, bt_nI (by omega) hj, xor_clear hnt]
      congr 1
      by_cases e : j = t
      · rw [decide_eq_true e, decide_eq_false (by omega)]; rfl
      · rw [decide_eq_false e, decide_eq_true e]; rfl
    have hx : n ^^^ 2 ^ t < 65536 := Nat.xor_lt_two_pow (n := 16) hn ht2
    have hmq : (n ^^^ 2 ^ t).testBit q = true := by rw [xor_clear hnt, hq, decide_eq_true hqt]; rfl
    have hml : ∀ j, j < q → (n ^^^ 2 ^ t).testBit j = false := fun j hj => by
      rw [xor_clear hnt]
      by_cases e : j = t
      · rw [decide_eq_false (by omega), Bool.and_false]
      · rw [hlow j hj e, Bool.false_and]
    have hlb := low_bit hmq hml
    have hpos : 1 ≤ n ^^^ 2 ^ t := by
      rcases Nat.eq_zero_or_pos (n ^^^ 2 ^ t) with z | z
      · rw [z, Nat.zero_testBit] at hmq; cases hmq
      · exact z
    have hcl : (jshl 1 (nI t)) ||| (nI (n ^^^ 2 ^ t) &&& (nI (n ^^^ 2 ^ t) - 1)) = nI (2 ^ t ||| ((n ^^^ 2 ^ t) &&& ((n ^^^ 2 ^ t) - 1))) := by
      rw [show nI (n ^^^ 2 ^ t) - 1 = nI ((n ^^^ 2 ^ t) - 1) from pk_sub (b := 1) hpos, nx_and, shl_nI (by omega), or_nI]
    have hlt : 2 ^ t ||| ((n ^^^ 2 ^ t) &&& ((n ^^^ 2 ^ t) - 1)) < 65536 := Nat.or_lt_two_pow (n := 16) ht2 (Nat.lt_of_le_of_lt Nat.and_le_left hx)
    rw [ho, hcl]
    refine ⟨?_, _, by omega, rfl⟩
    congr 1
    refine b_ext (fun j hj => ?_)
    rw [b_and, bt_not hj, bt_shl1 (by omega) hj, hb j hj, bt_nI (by omega) hj, Nat.testBit_or, Nat.testBit_two_pow, hlb, xor_clear hnt]
    by_cases e : j = t
    · subst e
      rw [hnt, decide_eq_true rfl, decide_eq_false (show ¬ j = q from fun z => hqt z.symm)]
      rfl
    · rw [decide_eq_true e, decide_eq_false (show ¬ t = j from fun z => e z.symm), Bool.and_true, Bool.false_or]
      by_cases e2 : j = q
      · rw [decide_eq_true e2, decide_eq_false (by omega)]; rfl
      · rw [decide_eq_false e2, decide_eq_true e2]; rfl
