/-! TOOLS (own): rules for functions over numbers; from an answer of a function to a contract -/
theorem fg_gd_t {α : Type} (k : Option α) : fg_gd true k = k := rfl
theorem fg_bd_s {α β : Type} (a : α) (k : α → Option β) : fg_bd (some a) k = k a := rfl
theorem fg_b2_s {α β : Type} (a : α) (mu : bs_Mm) (k : α → bs_Mm → Option β) : fg_b2 (some (a, mu)) k = k a mu := rfl
theorem fg_wr_s {β : Type} (mu : bs_Mm) (a j : Nat) (v : Value) (k : bs_Mm → Option β) : fg_wr mu a j v k = k (bs_up mu a j v) := rfl
theorem fg_wf_s {β : Type} (mu : bs_Mm) (a n : Nat) (v : Value) (k : bs_Mm → Option β) : fg_wf mu a n v k = k (bs_fi mu a n v) := rfl
theorem fg_wc_s {β : Type} (mu : bs_Mm) (a0 a1 sp dp n : Nat) (k : bs_Mm → Option β) : fg_wc mu a0 a1 sp dp n k = k (bs_cp mu a0 a1 sp dp n) := rfl
theorem fg_l3_l {τ ρ β : Type} (t : τ) (k : τ → Option β) (kr : ρ → Option β) : fg_l3 (some (.inl t)) k kr = k t := rfl
theorem fg_l3_r {τ ρ β : Type} (q : ρ) (k : τ → Option β) (kr : ρ → Option β) : fg_l3 (some (.inr q)) k kr = kr q := rfl
theorem fg_oq_n {β : Type} (k0 : Option β) (k : Nat → Option β) : fg_oq none k0 k = k0 := rfl
theorem fg_oq_s {β : Type} (b : Nat) (k0 : Option β) (k : Nat → Option β) : fg_oq (some b) k0 k = k b := rfl
theorem fg_let_s {α β : Type} (a : α) (k : α → Option β) : fg_let a k = k a := rfl
theorem fg_dt {p : Prop} [Decidable p] (h : p) : decide p = true := decide_eq_true h
/-- a loop that comes to an end: what holds at its head, and what then comes out -/
theorem fg_lp_s {σ τ : Type} {body : σ → Option (σ ⊕ τ)} {n : Nat} {s s' : σ} (h : body s = some (.inl s')) : fg_lp body (n + 1) s = fg_lp body n s' := by rw [fg_lp, h]
theorem fg_lp_e {σ τ : Type} {body : σ → Option (σ ⊕ τ)} {n : Nat} {s : σ} {t : τ} (h : body s = some (.inr t)) : fg_lp body (n + 1) s = some t := by rw [fg_lp, h]
theorem fg_lp_i {σ τ : Type} {body : σ → Option (σ ⊕ τ)} (I : Nat → σ → Prop) (E : τ → Prop) (hs : ∀ r s, I r s → (∃ s' r', body s = some (.inl s') ∧ r' < r ∧ I r' s') ∨ ∃ t, body s = some (.inr t) ∧ E t) : ∀ n r s, I r s → r < n → ∃ t, fg_lp body n s = some t ∧ E t := by
  intro n
  induction n with
  | zero => intro r s _ h; omega
  | succ n ih =>
    intro r s hI hr
    rcases hs r s hI with ⟨s', r', h1, h2, h3⟩ | ⟨t, h1, h2⟩
    · rw [fg_lp_s h1]
      exact ih r' s' h3 (by omega)
    · exact ⟨t, fg_lp_e h1, h2⟩
/-- a loop of a known number of turns -/
theorem fg_lp_n {σ τ : Type} {body : σ → Option (σ ⊕ τ)} {s0 : σ} (S : Nat → σ) (t : τ) (N : Nat) (h0 : S 0 = s0) (h1 : ∀ i, i < N → body (S i) = some (.inl (S (i + 1)))) (h2 : body (S N) = some (.inr t)) {n : Nat} (hn : N < n) : fg_lp body n s0 = some t := by
  rw [← h0]
  have h : ∀ r i, i + r = N → ∀ n, r < n → fg_lp body n (S i) = some t := by
    intro r
    induction r with
    | zero =>
      intro i hi n hn
      match n, hn with
      | n + 1, _ => rw [show i = N by omega]; exact fg_lp_e h2
    | succ r ih =>
      intro i hi n hn
      match n, hn with
      | n + 1, _ => rw [fg_lp_s (h1 i (by omega))]; exact ih (i + 1) (by omega) n (by omega)
  exact h N 0 (by omega) n hn
theorem fg_fu_lt {n : Nat} (h : n < 2000000) : n < fg_fu := h
/-- numbers -/
theorem fn_add (a b : Nat) : nI a + nI b = nI (a + b) := nI_add a b
theorem fn_sub {a b : Nat} (h : b ≤ a) : nI a - nI b = nI (a - b) := pk_sub h
theorem fn_mul (a b : Nat) : nI a * nI b = nI (a * b) := pk_mul a b
theorem fn_cl {a : Nat} (h : a < 2 ^ 31) : (nI a).toNatClampNeg = a := nI_clamp h
theorem fn_lt {a b : Nat} (ha : a < 2 ^ 31) (hb : b < 2 ^ 31) : (nI a < nI b) = (a < b) := propext (nI_ltI ha hb)
theorem fn_le {a b : Nat} (ha : a < 2 ^ 31) (hb : b < 2 ^ 31) : (nI a ≤ nI b) = (a ≤ b) := propext (nI_leI ha hb)
theorem fn_eq {a b : Nat} (ha : a < 2 ^ 31) (hb : b < 2 ^ 31) : (nI a = nI b) = (a = b) := propext (nI_eq ha hb)
theorem fn_eq0 {a : Nat} (ha : a < 2 ^ 31) : (nI a = 0) = (a = 0) := by rw [← nI_0, fn_eq ha (by decide)]
theorem fn_lt0 {a : Nat} (ha : a < 2 ^ 31) : (nI a < 0) = False := by rw [← nI_0, fn_lt ha (by decide)]; exact propext ⟨fun h => by omega, fun h => h.elim⟩
theorem fn_0le {a : Nat} (ha : a < 2 ^ 31) : ((0 : Int32) ≤ nI a) = True := by rw [← nI_0, fn_le (by decide) ha]; exact propext ⟨fun _ => trivial, fun _ => by omega⟩
theorem fn_0lt {a : Nat} (ha : a < 2 ^ 31) : ((0 : Int32) < nI a) = (0 < a) := by rw [← nI_0, fn_lt (by decide) ha]
theorem fn_le0 {a : Nat} (ha : a < 2 ^ 31) : (nI a ≤ 0) = (a = 0) := by rw [← nI_0, fn_le ha (by decide)]; exact propext ⟨fun h => by omega, fun h => by omega⟩
theorem fn_in {j n : Nat} (h : j < n) (hn : n < 2 ^ 31) : fg_in (nI j) n = true := fg_in_y h hn
theorem fn_shl {k : Nat} (h : k < 31) : nI 1 <<< (nI k &&& 31) = nI (2 ^ k) := bs_shl1 h
theorem fn_shr {n k : Nat} (hn : n < 2 ^ 31) (h : k < 32) : nI n >>> (nI k &&& 31) = nI (n / 2 ^ k) := bs_shrI hn h
theorem fn_rem {a b : Nat} (ha : a < 2 ^ 31) (h0 : 0 < b) (hb : b < 2 ^ 31) : nI a - nI a / nI b * nI b = nI (a % b) := pk_rem ha h0 hb
/-- any number against a bound -/
theorem fn_any {n : Nat} (a : Int32) (hn : n < 2 ^ 31) : (a < 0 ∨ nI n ≤ a) ∨ ∃ j, j < n ∧ a = nI j := by
  rcases pk_ix a hn with h | h | h
  · exact Or.inl (Or.inl h)
  · exact Or.inl (Or.inr h)
  · exact Or.inr h
/-- from a function to a contract -/
theorem fg_no {X : bs_M} {rm : Room} {av : List Value} {nx : Nat} {sh : bs_Sh} {mu : bs_Mm} {R : Nat → Nat → Option Nat} {v : Value} (h : bs_C X rm av nx sh mu (fg_po R nx sh (some v) mu)) : bs_C X rm av nx sh mu (bs_no nx sh mu v) := h.post fun _ _ _ _ q => ⟨q.1, q.2.1, q.2.2.1, q.2.2.2.1⟩
theorem fg_stS {T : List bs_Ce} {x : Nat} {sh : bs_Sh} {mu : bs_Mm} {R : Nat → Nat → Option Nat} (H : fg_S T R x sh) (hR : fg_R R mu) : bs_St T x sh mu := fun i q hq => ⟨(H i q hq).1, fun k b hb => hR _ _ _ (by rw [(H i q hq).2 k]; exact hb)⟩
