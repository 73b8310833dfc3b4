/-! words and numbers: what the two readings find -/
theorem readL {σ : gM} {β : Nat → Int32} {T : Nat} (hT : T ≤ 120) : ∀ (n i c : Nat) (before : Int32) (τ : gM), i + n = T → INV β T i c before τ → ∃ c' before' τ', INV β T T c' before' τ' ∧ x_readFrom5_L10 σ n i before τ = x_nameWords5 (x_begin5 τ' 17 (nI T))
  | 0, i, c, before, τ, e, I => by
    have e' : i = T := by omega
    subst e'
    refine ⟨c, before, τ, I, ?_⟩
    unfold x_readFrom5_L10
    rw [I.2.2.1]
  | n + 1, i, c, before, τ, e, I => by
    have hb : x_byteAt3 (mget τ 5) (nI i) = β i := by rw [byteAt_is hT I.2.2.1 (by omega), I.2.2.2.1]
    have old : ∀ so, so = x_sortOf5 (β i) → so = before → (so = 13 ∨ so = 14) → ∃ c' before' τ', INV β T T c' before' τ' ∧ x_readFrom5_L10 σ n (i + 1) so (x_takeUp5 τ (β i) (nI i)) = x_nameWords5 (x_begin5 τ' 17 (nI T)) := fun so h1 h2 h3 => by
      subst h2
      exact readL hT n (i + 1) c so _ (by omega) (I.more hT (by omega) h1.symm h3)
    have bl : ∀ so, so = x_sortOf5 (β i) → so = 18 → ∃ c' before' τ', INV β T T c' before' τ' ∧ x_readFrom5_L10 σ n (i + 1) so τ = x_nameWords5 (x_begin5 τ' 17 (nI T)) := fun so h1 h2 => by
      subst h2
      exact readL hT n (i + 1) c 18 _ (by omega) (I.blank h1.symm)
    have nw : ∀ so, so = x_sortOf5 (β i) → so ≠ 18 → ¬ (so = before ∧ (so = 13 ∨ so = 14)) → ∃ c' before' τ', INV β T T c' before' τ' ∧ x_readFrom5_L10 σ n (i + 1) so (x_takeUp5 (x_begin5 τ so (nI i)) (β i) (nI i)) = x_nameWords5 (x_begin5 τ' 17 (nI T)) := fun so h1 h2 h3 => readL hT n (i + 1) (c + 1) so _ (by omega) (I.fresh hT (by omega) h1.symm h2 h3)
    have hc := I.2.1
    obtain ⟨g0, g1, g2, g3, g4, gk⟩ := begin_is (so := x_sortOf5 (β i)) (i := i) I.1 (by omega)
    have hb2 : x_byteAt3 (mget (x_begin5 τ (x_sortOf5 (β i)) (nI i)) 5) (nI i) = β i := by rw [byteAt_is hT ((congrFun (gk 5 (by decide)) 0).trans I.2.2.1) (by omega), gk 6 (by decide), I.2.2.2.1]
    unfold x_readFrom5_L10
    rw [hb, hb2]
    generalize hso : x_sortOf5 (β i) = so
    rw [hso] at old bl nw
    by_cases c1 : so = before
    · rw [if_pos c1]
      by_cases c2 : so = 13
      · rw [if_pos c2, if_neg (by rw [c2]; decide)]
        exact old so rfl c1 (Or.inl c2)
      · rw [if_neg c2]
        by_cases c3 : so = 14
        · rw [if_pos c3, if_neg (by rw [c3]; decide)]
          exact old so rfl c1 (Or.inr c3)
        · rw [if_neg c3]
          by_cases c4 : so = 18
          · rw [if_pos c4]; exact bl so rfl c4
          · rw [if_neg c4]
            exact nw so rfl c4 (fun q => by rcases q.2 with r | r; exact c2 r; exact c3 r)
    · rw [if_neg c1]
      by_cases c4 : so = 18
      · rw [if_pos c4]; exact bl so rfl c4
      · rw [if_neg c4]
        exact nw so rfl c4 (fun q => c1 q.1)
/-! words by name -/
def SP (τ : gM) (k w : Nat) : Int32 := x_spells3 (mget τ 5) w (τ 2 k) (τ 3 k)
theorem SP_cong {τ τ' : gM} (h : ∀ r, r ≠ 1 → τ' r = τ r) (k w : Nat) : SP τ' k w = SP τ k w := by
  unfold SP
  rw [h 2 (by decide), h 3 (by decide), show mget τ' 5 = mget τ 5 from funext (fun j => h (5 + j) (by omega))]
def NMD (τ : gM) (w0 : Nat) (k : Nat) (x : Int32) : Prop := (τ 1 k ≠ 13 → x = τ 1 k) ∧ (τ 1 k = 13 → ((∀ w, w0 ≤ w → w < 13 → SP τ k w = 0) ∧ x = 13) ∨ ∃ w, w0 ≤ w ∧ w < 13 ∧ SP τ k w ≠ 0 ∧ x = nI w)
theorem nameL {σ τ0 : gM} {n2 k : Nat} : ∀ (n w : Nat) (τ : gM), w + n = 13 → (∀ r, r ≠ 1 → (x_nameWords5_L12 σ n2 k τ0 n w τ) r = τ r) ∧ (∀ j, j ≠ k → (x_nameWords5_L12 σ n2 k τ0 n w τ) 1 j = τ 1 j) ∧ NMD τ w k ((x_nameWords5_L12 σ n2 k τ0 n w τ) 1 k)
  | 0, w, τ, e => ⟨fun _ _ => rfl, fun _ _ => rfl, fun _ => rfl, fun h => Or.inl ⟨fun w' h1 h2 => by omega, h⟩⟩
  | n + 1, w, τ, e => by
    unfold x_nameWords5_L12
    by_cases c : τ 1 k = 13
    · rw [if_pos c]
      by_cases c2 : SP τ k w = 0
      · rw [if_pos (show x_spells3 (mget τ 5) w (τ 2 k) (τ 3 k) = 0 from c2)]
        obtain ⟨b1, b2, b3, b4⟩ := nameL (σ := σ) (τ0 := τ0) (n2 := n2) (k := k) n (w + 1) τ (by omega)
        refine ⟨b1, b2, b3, fun h => ?_⟩
        rcases b4 h with ⟨q1, q2⟩ | ⟨w', q1, q2, q3, q4⟩
        · refine Or.inl ⟨fun w' h1 h2 => ?_, q2⟩
          by_cases ew : w' = w
          · rw [ew]; exact c2
          · exact q1 w' (by omega) h2
        · exact Or.inr ⟨w', by omega, q2, q3, q4⟩
      · rw [if_neg (show ¬ x_spells3 (mget τ 5) w (τ 2 k) (τ 3 k) = 0 from c2)]
        have hne : (mset τ 1 k (nI w)) 1 k ≠ 13 := by
          rw [mset_at, upd_at]
          exact fun q => by have := (nI_eq (b := 13) (by omega) (by decide)).mp q; omega
        have est : x_nameWords5_L12 σ n2 k τ0 n (w + 1) (mset τ 1 k (nI w)) = mset τ 1 k (nI w) := by
          cases n with
          | zero => rfl
          | succ n => unfold x_nameWords5_L12; rw [if_neg hne]
        rw [est]
        refine ⟨fun r hr => mset_ne _ _ _ hr, fun j hj => by rw [mset_at, upd_ne _ _ hj], fun h => absurd c h, fun _ => Or.inr ⟨w, Nat.le_refl _, by omega, c2, by rw [mset_at, upd_at]⟩⟩
    · rw [if_neg c]
      exact ⟨fun _ _ => rfl, fun _ _ => rfl, fun _ => rfl, fun h => absurd h c⟩
theorem nameL2 {σ : gM} : ∀ (n k : Nat) (τ : gM), (∀ r, r ≠ 1 → (x_nameWords5_L2 σ n k τ) r = τ r) ∧ (∀ j, (j < k ∨ k + n ≤ j) → (x_nameWords5_L2 σ n k τ) 1 j = τ 1 j) ∧ ∀ j, k ≤ j → j < k + n → NMD τ 0 j ((x_nameWords5_L2 σ n k τ) 1 j)
  | 0, k, τ => ⟨fun _ _ => rfl, fun _ _ => rfl, fun j h1 h2 => by omega⟩
  | n + 1, k, τ => by
    obtain ⟨a1, a2, a3⟩ := nameL (σ := σ) (τ0 := τ) (n2 := n) (k := k) 13 0 τ rfl
    obtain ⟨b1, b2, b3⟩ := nameL2 (σ := σ) n (k + 1) (x_nameWords5_L12 σ n k τ 13 0 τ)
    unfold x_nameWords5_L2
    refine ⟨fun r hr => (b1 r hr).trans (a1 r hr), fun j hj => (b2 j (by omega)).trans (a2 j (by omega)), fun j h1 h2 => ?_⟩
    by_cases e : j = k
    · rw [b2 j (by omega), e]; exact a3
    · obtain ⟨q1, q2⟩ := b3 j (by omega) (by omega)
      unfold NMD
      rw [a2 j e] at q1 q2
      refine ⟨q1, fun h => ?_⟩
      rcases q2 h with ⟨r1, r2⟩ | ⟨w, r1, r2, r3, r4⟩
      · exact Or.inl ⟨fun w h1 h2 => by rw [← SP_cong a1]; exact r1 w h1 h2, r2⟩
      · exact Or.inr ⟨w, r1, r2, by rw [← SP_cong a1]; exact r3, r4⟩
theorem spellL {σ : gM} {w : Nat} {frm to : Int32} : ∀ (n i : Nat), (x_spells3_L15 σ w frm to n i ≠ 0) ↔ ∀ j, i ≤ j → j < i + n → x_byteAt3 σ (frm + nI j) = tx_c w j
  | 0, i => ⟨fun _ j h1 h2 => by omega, fun _ => by unfold x_spells3_L15; decide⟩
  | n + 1, i => by
    unfold x_spells3_L15
    by_cases c : x_byteAt3 σ (frm + nI i) = tx_c w i
    · rw [if_pos c, spellL n (i + 1)]
      constructor
      · intro h j h1 h2
        by_cases e : j = i
        · rw [e]; exact c
        · exact h j (by omega) (by omega)
      · intro h j h1 h2
        exact h j (by omega) (by omega)
    · rw [if_neg c]
      exact ⟨fun q => absurd rfl q, fun h => absurd (h i (Nat.le_refl _) (by omega)) c⟩
theorem SP_iff {τ : gM} {β : Nat → Int32} {T s e k w : Nat} (hT : T ≤ 120) (h5 : τ 5 0 = nI T) (h6 : τ 6 = β) (h2 : τ 2 k = nI s) (h3 : τ 3 k = nI e) (hse : s < e) (he : e ≤ T) : (SP τ k w ≠ 0) ↔ (e - s = tx_len.getD w 0 ∧ ∀ i, i < tx_len.getD w 0 → β (s + i) = tx_c w i) := by
  have hl : tx_len.getD w 0 ≤ 7 := by
    by_cases hw : w < 13
    · exact tx_len7 hw
    · have : tx_len.getD w 0 = 0 := by
        rw [List.getD_eq_getElem?_getD, List.getElem?_eq_none (by show 13 ≤ w; omega)]
        rfl
      omega
  unfold SP x_spells3
  rw [h2, h3, pk_sub (by omega)]
  have hq : (nI (tx_len.getD w 0) = nI (e - s)) ↔ e - s = tx_len.getD w 0 := by
    rw [nI_eq (by omega) (by omega)]
    exact ⟨Eq.symm, Eq.symm⟩
  by_cases c : e - s = tx_len.getD w 0
  · rw [if_pos (hq.mpr c), spellL]
    constructor
    · intro h
      refine ⟨c, fun i hi => ?_⟩
      have := h i (Nat.zero_le _) (by omega)
      rw [nI_add, byteAt_is hT h5 (by omega), h6] at this
      exact this
    · intro h j _ h2
      rw [nI_add, byteAt_is hT h5 (by omega), h6]
      exact h.2 j (by omega)
  · rw [if_neg (fun q => c (hq.mp q))]
    exact ⟨fun q => absurd rfl q, fun q => absurd q.1 c⟩
/-! the value of a word -/
def lt (b : Int32) : Nat := nN b - 96
def cf (β : Nat → Int32) (s : Nat) : Nat → Nat
  | 0 => 0
  | n + 1 => if cf β s n ≤ 100000000000000000 then cf β s n * 27 + lt (β (s + n)) else cf β s n
def ws (w i : Nat) : Nat := nN (tx_c w i) - 96
def pf (w : Nat) : Nat → Nat
  | 0 => 0
  | i + 1 => pf w i * 27 + ws w i
def tx_W : List Nat := [3967817, 4393273559, 191727149, 237058, 1489745, 10497768, 65782373, 257, 307058, 6132988, 242911, 374953, 158575]
theorem pf_W : ∀ w, w < 13 → pf w (tx_len.getD w 0) = tx_W.getD w 0 := by decide +kernel
theorem ws_v : ∀ w, w < 13 → ∀ i, i < tx_len.getD w 0 → 1 ≤ ws w i ∧ ws w i ≤ 26 ∧ tx_c w i = nI (96 + ws w i) := by decide +kernel
theorem pf_v : ∀ w, w < 13 → ∀ i, i < 8 → i ≤ tx_len.getD w 0 → pf w i ≤ 100000000000000000 := by decide +kernel
theorem letter_v {b : Int32} (h : x_sortOf5 b = 13) : ¬ m_letter b ≤ 0 ∧ (∃ l, 1 ≤ l ∧ l ≤ 26 ∧ b = nI (96 + l) ∧ lt b = l ∧ (m_letter b).toInt = l) := by
  rcases so_cases b with q | q | q | q | q
  · rw [q.2.1] at h; exact absurd h (by decide)
  · rw [q.2.1] at h; exact absurd h (by decide)
  · rw [q.2.2.1] at h; exact absurd h (by decide)
  · obtain ⟨-, -, -, q4, q5, q6, q7⟩ := q
    obtain ⟨n, hn, rfl⟩ := nI_of (x := b) (fun r => by have := Int32.lt_iff_toInt_lt.mp r; rw [show (0 : Int32).toInt = 0 from rfl] at this; omega)
    rw [nI_toInt hn] at q5 q6
    refine ⟨q4, n - 96, by omega, by omega, by congr 1; omega, by unfold lt; rw [nN_nI hn], ?_⟩
    rw [q7, show (97 : Int32) = nI 97 from rfl, pk_sub (by omega), nI_1, nI_toInt (by omega)]
    omega
  · rw [q.2.2.1] at h; exact absurd h (by decide)
theorem cf_iff {β : Nat → Int32} {s w : Nat} (hw : w < 13) : ∀ (i n : Nat), i ≤ tx_len.getD w 0 → (∀ j, j < n → x_sortOf5 (β (s + j)) = 13) → (cf β s n = pf w i ↔ (n = i ∧ ∀ j, j < i → β (s + j) = tx_c w j))
  | 0, n, _, hl => by
    cases n with
    | zero => exact ⟨fun _ => ⟨rfl, fun j hj => by omega⟩, fun _ => rfl⟩
    | succ n =>
      obtain ⟨-, l, l1, l2, l3, l4, l5⟩ := letter_v (hl n (by omega))
      constructor
      · intro q
        exfalso
        unfold cf pf at q
        split at q <;> omega
      · intro q
        omega
  | i + 1, n, hi, hl => by
    obtain ⟨v1, v2, v3⟩ := ws_v w hw i (by omega)
    have vp := pf_v w hw i (by have := tx_len7 hw; omega) (by omega)
    have vq := pf_v w hw (i + 1) (by have := tx_len7 hw; omega) hi
    cases n with
    | zero =>
      constructor
      · intro q
        exfalso
        unfold cf pf at q
        omega
      · intro q
        omega
    | succ n =>
      obtain ⟨-, l, l1, l2, l3, l4, l5⟩ := letter_v (hl n (by omega))
      have ih := cf_iff (β := β) (s := s) hw i n (by omega) (fun j hj => hl j (by omega))
      have e1 : cf β s (n + 1) = if cf β s n ≤ 100000000000000000 then cf β s n * 27 + l else cf β s n := by
        rw [← l4]; rfl
      have e2 : pf w (i + 1) = pf w i * 27 + ws w i := rfl
      rw [e1]
      constructor
      · intro q
        by_cases c : cf β s n ≤ 100000000000000000
        · rw [if_pos c, e2] at q
          have q1 : cf β s n = pf w i := by omega
          have q2 : l = ws w i := by omega
          obtain ⟨r1, r2⟩ := ih.mp q1
          refine ⟨by omega, fun j hj => ?_⟩
          by_cases ej : j = i
          · rw [ej, v3, ← q2, ← r1]; exact l3
          · exact r2 j (by omega)
        · rw [if_neg c] at q
          omega
      · intro q
        have hn : n = i := by omega
        have q1 := ih.mpr ⟨hn, fun j hj => q.2 j (by omega)⟩
        rw [if_pos (by omega), q1, e2]
        have q2 := q.2 i (by omega)
        subst hn
        rw [l3, v3, nI_eq (by omega) (by omega)] at q2
        omega
