/-! what next() finds: blanks, words, numbers -/
def scB (b : Nat → Int32) : Nat → Nat → Nat
  | 0, a => a
  | n + 1, a => if b a = 32 then scB b n (a + 1) else a
def scW (b : Nat → Int32) : Nat → Nat → Int64 → Nat × Int64
  | 0, a, v => (a, v)
  | n + 1, a, v => if m_letter (b a) ≤ 0 then (a, v) else scW b n (a + 1) (if lg_cmp v 100000000000000000 ≤ 0 then v * 27 + (m_letter (b a)).toInt64 else v)
def scN (b : Nat → Int32) : Nat → Nat → Int64 → Nat × Int64
  | 0, a, v => (a, v)
  | n + 1, a, v => if m_isDigit (b a) = 0 then (a, v) else scN b n (a + 1) (if lg_cmp v 99999 ≤ 0 then v * 10 + (b a).toInt64 - 48 else v)
/-- sort, from, at, value of the token that stands at or behind a -/
def tkn (b : Nat → Int32) (T a : Nat) : Int32 × Nat × Nat × Int64 :=
  if scB b (T + 1 - a) a = T then (0, T, T, 0) else if b (scB b (T + 1 - a) a) = 59 then (3, scB b (T + 1 - a) a, scB b (T + 1 - a) a + 1, 0)
  else if m_letter (b (scB b (T + 1 - a) a)) ≤ 0 then (if m_isDigit (b (scB b (T + 1 - a) a)) = 0 then (4, scB b (T + 1 - a) a, scB b (T + 1 - a) a, 0) else (2, scB b (T + 1 - a) a, scN b (T + 1 - scB b (T + 1 - a) a) (scB b (T + 1 - a) a) 0))
  else (1, scB b (T + 1 - a) a, scW b (T + 1 - scB b (T + 1 - a) a) (scB b (T + 1 - a) a) 0)
theorem mb_cong {σ τ : gM} (h1 : σ 0 1 = τ 0 1) (h6 : σ 6 = τ 6) : m_byteAt σ = m_byteAt τ := by
  funext q
  unfold m_byteAt
  rw [h1, h6]
def NR (τ σ' : gM) (a : Nat) (v : Int64) : Prop := (∀ k, k ≠ 0 → σ' k = τ k) ∧ (∀ j, j ≠ 3 → j ≠ 7 → j ≠ 8 → σ' 0 j = τ 0 j) ∧ σ' 0 3 = nI a ∧ jl (σ' 0 7) (σ' 0 8) = v
theorem NR.step {τ σ' : gM} {x : Int64} {y : Int32} {a : Nat} {v : Int64} (h : NR (mset (mset (mset τ 0 7 (jhi x)) 0 8 (jlo x)) 0 3 y) σ' a v) : NR τ σ' a v := by
  refine ⟨fun k hk => ?_, fun j h3 h7 h8 => ?_, h.2.2⟩
  · rw [h.1 k hk, mset_ne _ _ _ hk, mset_ne _ _ _ hk, mset_ne _ _ _ hk]
  · rw [h.2.1 j h3 h7 h8, mset_at]
    unfold upd
    rw [if_neg h3, mset_at]
    unfold upd
    rw [if_neg h8, mset_at]
    exact if_neg h7
theorem L103_is {σ τ : gM} {n0 T : Nat} (hT : T ≤ 120) : ∀ (n a : Nat) (v : Int64) (τ2 : gM), τ2 0 3 = nI a → a ≤ T → a + n = T + 1 → τ2 0 1 = nI T → jl (τ2 0 7) (τ2 0 8) = v → NR τ2 (m_next_L103 σ n0 τ n τ2) (scW (m_byteAt τ2) n a v).1 (scW (m_byteAt τ2) n a v).2 := by
  intro n
  induction n with
  | zero => intro a v τ2 h1 h2 h3; omega
  | succ n ih =>
    intro a v τ2 h1 h2 h3 h4 h5
    have hn : nN (τ2 0 3) = a := by rw [h1, nN_nI (by omega)]
    rw [m_next_L103, scW, hn, h5]
    by_cases c : m_letter (m_byteAt τ2 a) ≤ 0
    · rw [if_pos c, if_pos c]
      exact ⟨fun _ _ => rfl, fun _ _ _ _ => rfl, h1, h5⟩
    · rw [if_neg c, if_neg c]
      have hlt := mb_letter hT h4 (by omega) c
      have key : ∀ x : Int64, NR τ2 (m_next_L103 σ n0 τ n (mset (mset (mset τ2 0 7 (jhi x)) 0 8 (jlo x)) 0 3 ((τ2 0 3) + 1))) (scW (m_byteAt τ2) n (a + 1) x).1 (scW (m_byteAt τ2) n (a + 1) x).2 := by
        intro x
        have e : m_byteAt (mset (mset (mset τ2 0 7 (jhi x)) 0 8 (jlo x)) 0 3 ((τ2 0 3) + 1)) = m_byteAt τ2 := mb_cong rfl rfl
        rw [← e]
        exact NR.step (ih (a + 1) x _ (by show τ2 0 3 + 1 = _; rw [h1]; exact nI_1 a) (by omega) (by omega) h4 (jl_of x))
      by_cases c2 : lg_cmp v 100000000000000000 ≤ 0
      · rw [if_pos c2, if_pos c2]
        exact key _
      · rw [if_neg c2, if_neg c2]
        exact key _
theorem L185_is {σ τ : gM} {n0 T : Nat} (hT : T ≤ 120) : ∀ (n a : Nat) (v : Int64) (τ2 : gM), τ2 0 3 = nI a → a ≤ T → a + n = T + 1 → τ2 0 1 = nI T → jl (τ2 0 7) (τ2 0 8) = v → NR τ2 (m_next_L185 σ n0 τ n τ2) (scN (m_byteAt τ2) n a v).1 (scN (m_byteAt τ2) n a v).2 := by
  intro n
  induction n with
  | zero => intro a v τ2 h1 h2 h3; omega
  | succ n ih =>
    intro a v τ2 h1 h2 h3 h4 h5
    have hn : nN (τ2 0 3) = a := by rw [h1, nN_nI (by omega)]
    rw [m_next_L185, scN, hn, h5]
    by_cases c : m_isDigit (m_byteAt τ2 a) = 0
    · rw [if_pos c, if_pos c]
      exact ⟨fun _ _ => rfl, fun _ _ _ _ => rfl, h1, h5⟩
    · rw [if_neg c, if_neg c]
      have hlt := mb_digit hT h4 (by omega) c
      have key : ∀ x : Int64, NR τ2 (m_next_L185 σ n0 τ n (mset (mset (mset τ2 0 7 (jhi x)) 0 8 (jlo x)) 0 3 ((τ2 0 3) + 1))) (scN (m_byteAt τ2) n (a + 1) x).1 (scN (m_byteAt τ2) n (a + 1) x).2 := by
        intro x
        have e : m_byteAt (mset (mset (mset τ2 0 7 (jhi x)) 0 8 (jlo x)) 0 3 ((τ2 0 3) + 1)) = m_byteAt τ2 := mb_cong rfl rfl
        rw [← e]
        exact NR.step (ih (a + 1) x _ (by show τ2 0 3 + 1 = _; rw [h1]; exact nI_1 a) (by omega) (by omega) h4 (jl_of x))
      by_cases c2 : lg_cmp v 99999 ≤ 0
      · rw [if_pos c2, if_pos c2]
        exact key _
      · rw [if_neg c2, if_neg c2]
        exact key _
/-- what next() does to the rows -/
def NT (τ σ' : gM) (q : Int32 × Nat × Nat × Int64) : Prop := (∀ k, k ≠ 0 → σ' k = τ k) ∧ (∀ j, j ≠ 3 → j ≠ 4 → j ≠ 5 → j ≠ 7 → j ≠ 8 → σ' 0 j = τ 0 j) ∧ σ' 0 4 = q.1 ∧ σ' 0 5 = nI q.2.1 ∧ σ' 0 3 = nI q.2.2.1 ∧ jl (σ' 0 7) (σ' 0 8) = q.2.2.2
theorem scB_in (b : Nat → Int32) (T : Nat) (hb : ∀ q, q ≤ T → b q = 32 → q < T) : ∀ (n a : Nat), a ≤ T → a ≤ scB b n a ∧ scB b n a ≤ T := by
  intro n
  induction n with
  | zero => intro a h; exact ⟨Nat.le_refl _, h⟩
  | succ n ih =>
    intro a h
    rw [scB]
    split
    · rename_i c
      have := hb a h c
      have := ih (a + 1) (by omega)
      omega
    · omega
theorem NR.tok {τ σ' : gM} {x : Int32} {y : Int32} {a : Nat} {v : Int64} {f : Nat} (hy : y = nI f) (h : NR (mset (mset (mset (mset τ 0 5 y) 0 7 (jhi 0)) 0 8 (jlo 0)) 0 4 x) σ' a v) : NT τ σ' (x, f, a, v) := by
  refine ⟨fun k hk => ?_, fun j h3 h4 h5 h7 h8 => ?_, ?_, ?_, h.2.2⟩
  · rw [h.1 k hk, mset_ne _ _ _ hk, mset_ne _ _ _ hk, mset_ne _ _ _ hk, mset_ne _ _ _ hk]
  · rw [h.2.1 j h3 h7 h8, mset_at]
    unfold upd
    rw [if_neg h4, mset_at]
    unfold upd
    rw [if_neg h8, mset_at]
    unfold upd
    rw [if_neg h7, mset_at]
    exact if_neg h5
  · rw [h.2.1 4 (by decide) (by decide) (by decide)]
    rfl
  · rw [h.2.1 5 (by decide) (by decide) (by decide)]
    exact hy
theorem L0_is {σ : gM} {T : Nat} (hT : T ≤ 120) : ∀ (n a : Nat) (τ : gM), τ 0 3 = nI a → a ≤ T → a + n = T + 1 → τ 0 1 = nI T → NT τ (m_next_L0 σ n τ) (tkn (m_byteAt τ) T a) := by
  intro n
  induction n with
  | zero => intro a τ h1 h2 h3; omega
  | succ n ih =>
    intro a τ h1 h2 h3 h4
    have hn : nN (τ 0 3) = a := by rw [h1, nN_nI (by omega)]
    have hn1 : nN (τ 0 1) = T := by rw [h4, nN_nI (by omega)]
    have hfu : T + 1 - a = n + 1 := by omega
    rw [m_next_L0, hn, hn1]
    by_cases c : m_byteAt τ a = 32
    · rw [if_pos c]
      have hlt := mb_32 hT h4 (by omega) c
      have e : m_byteAt (mset τ 0 3 ((τ 0 3) + 1)) = m_byteAt τ := mb_cong rfl rfl
      have et : tkn (m_byteAt τ) T a = tkn (m_byteAt τ) T (a + 1) := by
        unfold tkn
        rw [hfu, scB, if_pos c, show T + 1 - (a + 1) = n from by omega]
      rw [et, ← e]
      have h := ih (a + 1) (mset τ 0 3 ((τ 0 3) + 1)) (by show τ 0 3 + 1 = _; rw [h1]; exact nI_1 a) (by omega) (by omega) h4
      refine ⟨fun k hk => by rw [h.1 k hk, mset_ne _ _ _ hk], fun j q3 q4 q5 q7 q8 => ?_, h.2.2⟩
      rw [h.2.1 j q3 q4 q5 q7 q8, mset_at]
      exact if_neg q3
    · rw [if_neg c]
      have es : scB (m_byteAt τ) (T + 1 - a) a = a := by rw [hfu, scB, if_neg c]
      have eb : m_byteAt (mset (mset (mset τ 0 5 (τ 0 3)) 0 7 (jhi 0)) 0 8 (jlo 0)) = m_byteAt τ := mb_cong rfl rfl
      have ec : ∀ x : Int32, m_byteAt (mset (mset (mset (mset τ 0 5 (τ 0 3)) 0 7 (jhi 0)) 0 8 (jlo 0)) 0 4 x) = m_byteAt τ := fun x => mb_cong rfl rfl
      rw [eb]
      unfold tkn
      rw [es]
      by_cases c1 : a = T
      · rw [if_pos (show τ 0 3 = τ 0 1 by rw [h1, h4, c1]), if_pos c1]
        exact NR.tok (by rw [h1, c1]) ⟨fun _ _ => rfl, fun _ _ _ _ => rfl, (by rw [← c1]; exact h1), jl_of 0⟩
      · rw [if_neg (show ¬ τ 0 3 = τ 0 1 from fun q => c1 (by rw [h1, h4] at q; exact (nI_eq (by omega) (by omega)).mp q)), if_neg c1]
        by_cases c2 : m_byteAt τ a = 59
        · rw [if_pos c2, if_pos c2]
          refine ⟨fun k hk => ?_, fun j q3 q4 q5 q7 q8 => ?_, rfl, h1, ?_, jl_of 0⟩
          · rw [mset_ne _ _ _ hk, mset_ne _ _ _ hk, mset_ne _ _ _ hk, mset_ne _ _ _ hk, mset_ne _ _ _ hk]
          · rw [mset_at]
            unfold upd
            rw [if_neg q3, mset_at]
            unfold upd
            rw [if_neg q4, mset_at]
            unfold upd
            rw [if_neg q8, mset_at]
            unfold upd
            rw [if_neg q7, mset_at]
            exact if_neg q5
          · show τ 0 3 + 1 = _
            rw [h1]
            exact nI_1 a
        · rw [if_neg c2, if_neg c2]
          by_cases c3 : m_letter (m_byteAt τ a) ≤ 0
          · rw [if_pos c3, if_pos c3]
            by_cases c4 : m_isDigit (m_byteAt τ a) = 0
            · rw [if_pos c4, if_pos c4]
              exact NR.tok h1 ⟨fun _ _ => rfl, fun _ _ _ _ => rfl, h1, jl_of 0⟩
            · rw [if_neg c4, if_neg c4]
              have h := L185_is (σ := σ) (τ := τ) (n0 := n) hT (T + 1 - a) a 0 (mset (mset (mset (mset τ 0 5 (τ 0 3)) 0 7 (jhi 0)) 0 8 (jlo 0)) 0 4 2) h1 h2 (by omega) h4 (jl_of 0)
              rw [ec] at h
              exact NR.tok h1 h
          · rw [if_neg c3, if_neg c3]
            have h := L103_is (σ := σ) (τ := τ) (n0 := n) hT (T + 1 - a) a 0 (mset (mset (mset (mset τ 0 5 (τ 0 3)) 0 7 (jhi 0)) 0 8 (jlo 0)) 0 4 1) h1 h2 (by omega) h4 (jl_of 0)
            rw [ec] at h
            exact NR.tok h1 h
theorem next_is {σ : gM} {T a : Nat} (hT : T ≤ 120) (ht : σ 0 1 = nI T) (ha : σ 0 3 = nI a) (hle : a ≤ T) : NT σ (m_next σ) (tkn (m_byteAt σ) T a) := by
  unfold m_next
  rw [ht, ha, nN_nI (by omega), nN_nI (by omega)]
  exact L0_is hT _ a σ ha hle (by omega) ht
