/-! READING (own): the tape of both sides, looking, steps of the class's reader -/
def cT (x n : Nat) (T : Nat → Nat) (mu : bs_Mm) : Prop := bs_iv (mu (x + 5) 1) = nI n ∧ n ≤ 200 ∧ ∀ i, i < n → bs_iv (mu (x + 6) i) = nI (T i) ∧ 1 ≤ T i ∧ T i ≤ 255
def mT (m n : Nat) (T : Nat → Nat) (mu : bs_Mm) : Prop := bs_iv (mu m 7) = nI n ∧ n ≤ 200 ∧ ∀ i, i < n → bs_iv (mu (m + 5) i) = nI (T i) ∧ 1 ≤ T i ∧ T i ≤ 255
theorem cT_of {x n : Nat} {T : Nat → Nat} {mu mu' : bs_Mm} (h : cT x n T mu) (e5 : mu' (x + 5) = mu (x + 5)) (e6 : mu' (x + 6) = mu (x + 6)) : cT x n T mu' := by
  unfold cT
  rw [e5, e6]
  exact h
theorem mT_of {m n : Nat} {T : Nat → Nat} {mu mu' : bs_Mm} (h : mT m n T mu) (e7 : mu' m 7 = mu m 7) (e5 : mu' (m + 5) = mu (m + 5)) : mT m n T mu' := by
  unfold mT
  rw [e7, e5]
  exact h
def tch (n : Nat) (T : Nat → Nat) (a : Nat) : Int32 := if a < n then nI (T a) else -1
def tdg (n : Nat) (T : Nat → Nat) (a : Nat) : Prop := a < n ∧ 48 ≤ T a ∧ T a ≤ 57
theorem tf_here {m n a : Nat} {T : Nat → Nat} {mu : bs_Mm} (h : mT m n T mu) (ha : bs_iv (mu m 8) = nI a) (hn : a ≤ 500) : FX12_here m mu = some (tch n T a) := by
  obtain ⟨h7, h2, h3⟩ := h
  unfold FX12_here tch
  by_cases c : a < n
  · simp (disch := omega) only [fg_gd_t, fg_bd_s, fg_b2_s, fg_wr_s, fg_let_s, fn_add, fn_sub, fn_mul, fn_cl, fn_lt, fn_le, fn_eq, fn_eq0, fn_lt0, fn_0le, fn_0lt, fn_le0, fn_in, fn_shl, fn_shr, fa_and, fa_or, bs_xorI, if_true, if_false, h7, ha, if_neg (show ¬ n ≤ a by omega), if_pos c, (h3 a c).1]
  · simp (disch := omega) only [fg_gd_t, fg_bd_s, fg_b2_s, fg_wr_s, fg_let_s, fn_add, fn_sub, fn_mul, fn_cl, fn_lt, fn_le, fn_eq, fn_eq0, fn_lt0, fn_0le, fn_0lt, fn_le0, fn_in, fn_shl, fn_shr, fa_and, fa_or, bs_xorI, if_true, if_false, h7, ha, if_pos (show n ≤ a by omega), if_neg c]
theorem tf_look {m n a : Nat} {T : Nat → Nat} {mu : bs_Mm} (h : mT m n T mu) (ha : bs_iv (mu m 8) = nI a) (hn : a ≤ n) : ∃ a' mu', FX12_look m mu = some (tch n T a', mu') ∧ a ≤ a' ∧ a' ≤ n ∧ (∀ i, a ≤ i → i < a' → T i = 32) ∧ ¬ (a' < n ∧ T a' = 32) ∧ bs_iv (mu' m 8) = nI a' ∧ (∀ k, k ≠ 8 → mu' m k = mu m k) ∧ ∀ c, c ≠ m → mu' c = mu c := by
  have h2 := h.2.1
  refine Exists.elim (fg_lp_i (body := FX12_look_b0 m) (fun r s => ∃ b, bs_iv (s m 8) = nI b ∧ a ≤ b ∧ b + r = n ∧ (∀ i, a ≤ i → i < b → T i = 32) ∧ (∀ k, k ≠ 8 → s m k = mu m k) ∧ ∀ c, c ≠ m → s c = mu c) (fun t => ∃ a', a ≤ a' ∧ a' ≤ n ∧ (∀ i, a ≤ i → i < a' → T i = 32) ∧ ¬ (a' < n ∧ T a' = 32) ∧ bs_iv (t m 8) = nI a' ∧ (∀ k, k ≠ 8 → t m k = mu m k) ∧ ∀ c, c ≠ m → t c = mu c) (fun r s hJ => ?_) fg_fu (n - a) mu ⟨a, ha, Nat.le_refl _, by omega, fun i h1 h2 => by omega, fun _ _ => rfl, fun _ _ => rfl⟩ (fg_fu_lt (by omega))) (fun t ht => ?_)
  · obtain ⟨b, e8, hb, hr, hi, hk, hc⟩ := hJ
    have hT : mT m n T s := mT_of h (hk 7 (by decide)) (hc _ (by omega))
    have he := tf_here hT e8 (by omega)
    by_cases c : b < n ∧ T b = 32
    · have ev : tch n T b = nI 32 := by
        unfold tch
        rw [if_pos c.1, c.2]
      rw [ev] at he
      refine Or.inl ⟨bs_up s m 8 (.int (nI (b + 1))), r - 1, ?_, by omega, b + 1, by rw [bs_up_eq]; rfl, by omega, by omega, fun i i1 i2 => ?_, fun k hk2 => by rw [bs_up_j hk2]; exact hk k hk2, fun c hc2 => by rw [bs_up_f hc2]; exact hc c hc2⟩
      · unfold FX12_look_b0
        rw [he, fg_bd_s, if_pos rfl, e8, fn_add, fg_wr_s]
      · by_cases e : i = b
        · subst e
          exact c.2
        · exact hi i i1 (by omega)
    · refine Or.inr ⟨s, ?_, b, hb, by omega, hi, c, e8, hk, hc⟩
      have ne : ¬ tch n T b = nI 32 := by
        unfold tch
        by_cases d : b < n
        · rw [if_pos d]
          have t := (h.2.2 b d).2
          exact fun w => c ⟨d, (nI_eq (by omega) (by decide)).mp w⟩
        · rw [if_neg d]
          decide
      unfold FX12_look_b0
      rw [he, fg_bd_s, if_neg ne]
  · obtain ⟨t1, a', t2, t3, t4, t5, t6, t7, t8⟩ := ht
    refine ⟨a', t, ?_, t2, t3, t4, t5, t6, t7, t8⟩
    unfold FX12_look
    rw [t1, fg_bd_s, tf_here (mT_of h (t7 7 (by decide)) (t8 _ (by omega))) t6 (by omega), fg_bd_s]
theorem tf_isD {m n a : Nat} {T : Nat → Nat} {mu : bs_Mm} (hT : a < n → T a ≤ 255) : (tdg n T a → FX12_isDigit m mu (tch n T a) = some (nI 1)) ∧ (¬ tdg n T a → FX12_isDigit m mu (tch n T a) = some (nI 0)) := by
  unfold FX12_isDigit tch tdg
  by_cases c : a < n
  · rw [if_pos c]
    have t := hT c
    refine ⟨fun h => ?_, fun h => ?_⟩
    · rw [if_neg (fun w => by have := (nI_ltI (by omega) (by decide)).mp w; omega), if_neg (fun w => by have := (nI_ltI (by decide) (by omega)).mp w; omega)]
    · by_cases d : T a < 48
      · rw [if_pos ((nI_ltI (by omega) (by decide)).mpr d)]
      · rw [if_neg (fun w => d ((nI_ltI (by omega) (by decide)).mp w)), if_pos ((nI_ltI (by decide) (by omega)).mpr (by omega))]
  · rw [if_neg c]
    exact ⟨fun h => absurd h.1 c, fun _ => by rw [if_pos (by decide)]⟩
theorem tf_bad {m a : Nat} {mu : bs_Mm} (h9 : bs_iv (mu m 9) = -1) (h8 : bs_iv (mu m 8) = nI a) : FX12_bad m mu = some (bs_up mu m 9 (.int (nI a))) := by
  unfold FX12_bad
  rw [h9, if_pos rfl, h8, fg_wr_s]
theorem tf_bad2 {m p : Nat} {mu : bs_Mm} (hp : p ≤ 500) (h9 : bs_iv (mu m 9) = nI p) : FX12_bad m mu = some (bs_up mu m 9 (.int (nI p))) := by
  unfold FX12_bad
  rw [h9, if_neg (al_nm (by omega)), fg_wr_s]
/-- the class's tape -/
theorem sf_at {x n i : Nat} {T : Nat → Nat} {mu : bs_Mm} (h : cT x n T mu) (hi : i ≤ 500) : FX10_at x mu (nI i) = some (if i < n then nI (T i) else nI 0) := by
  obtain ⟨h1, h2, h3⟩ := h
  unfold FX10_at
  rw [if_neg (nI_pos (by omega)), h1]
  by_cases c : i < n
  · rw [if_pos ((nI_ltI (by omega) (by omega)).mpr c), fn_in (show i < 200 by omega) (by decide), fg_gd_t, fn_cl (show i < 2 ^ 31 by omega), (h3 i c).1, if_pos c]
  · rw [if_neg (fun w => c ((nI_ltI (by omega) (by omega)).mp w)), if_neg c, nI_0]
theorem sf_isD {x t : Nat} {mu : bs_Mm} (ht : t ≤ 255) : (48 ≤ t ∧ t ≤ 57 → FX11_isDigit x mu (nI t) = some (nI 1)) ∧ (¬ (48 ≤ t ∧ t ≤ 57) → FX11_isDigit x mu (nI t) = some (nI 0)) := by
  unfold FX11_isDigit
  refine ⟨fun h => ?_, fun h => ?_⟩
  · rw [if_neg (fun w => by have := (nI_ltI (by omega) (by decide)).mp w; omega), if_neg (fun w => by have := (nI_ltI (by decide) (by omega)).mp w; omega)]
  · by_cases d : t < 48
    · rw [if_pos ((nI_ltI (by omega) (by decide)).mpr d)]
    · rw [if_neg (fun w => d ((nI_ltI (by omega) (by decide)).mp w)), if_pos ((nI_ltI (by decide) (by omega)).mpr (by omega))]
/-- the class's reader from byte i on -/
noncomputable def rd_go (x n : Nat) (l : Int32) (i : Nat) (mu : bs_Mm) : Option (bs_Mm ⊕ (Int32 × bs_Mm)) := fg_lp (FX2_read_b7 x l) (n + 1 - i) (nI i, mu)
def tdb (n : Nat) (T : Nat → Nat) (i : Nat) : Bool := decide (i < n) && (decide (48 ≤ T i) && decide (T i ≤ 57))
theorem tdb_c {n i : Nat} {T : Nat → Nat} : tdb n T i = true ↔ tdg n T i := by
  unfold tdb tdg
  rw [Bool.and_eq_true, Bool.and_eq_true, decide_eq_true_eq, decide_eq_true_eq, decide_eq_true_eq]
theorem rd_step {x n i : Nat} {l v : Int32} {T : Nat → Nat} {mu mu1 : bs_Mm} (hT : cT x n T mu) (hi : i < n) (h : FX2_takes x mu (nI (T i)) (nI (if tdb n T (i + 1) = true then 1 else 0)) = some (v, mu1)) : (v ≠ 0 → rd_go x n l i mu = rd_go x n l (i + 1) mu1) ∧ (v = 0 → rd_go x n l i mu = some (.inr (nI i, mu1))) := by
  have h2 := hT.2.1
  have dn : ∃ w, FX10_at x mu (nI i + nI 1) = some w ∧ FX11_isDigit x mu w = some (nI (if tdb n T (i + 1) = true then 1 else 0)) := by
    rw [fn_add, sf_at hT (by omega)]
    refine ⟨_, rfl, ?_⟩
    by_cases c : i + 1 < n
    · have t := (hT.2.2 (i + 1) c).2.2
      rw [if_pos c]
      by_cases d : 48 ≤ T (i + 1) ∧ T (i + 1) ≤ 57
      · rw [(sf_isD t).1 d, if_pos (tdb_c.mpr ⟨c, d⟩)]
      · rw [(sf_isD t).2 d, if_neg (fun w => d (tdb_c.mp w).2)]
    · rw [if_neg c, if_neg (fun w => c (tdb_c.mp w).1), (sf_isD (by decide)).2 (by decide)]
  obtain ⟨w, d1, d2⟩ := dn
  have body : FX2_read_b7 x l (nI i, mu) = if v = 0 then some (.inr (.inr (nI i, mu1))) else some (.inl (nI (i + 1), mu1)) := by
    unfold FX2_read_b7
    rw [hT.1, if_neg (fun w => by have := (nI_leI (by omega) (by omega)).mp w; omega), sf_at hT (by omega), if_pos hi, fg_bd_s, d1, fg_bd_s, d2, fg_bd_s, h, fg_b2_s, fn_add]
  unfold rd_go
  rw [show n + 1 - i = (n + 1 - (i + 1)) + 1 by omega]
  refine ⟨fun hv => ?_, fun hv => ?_⟩
  · exact fg_lp_s (by rw [body, if_neg hv])
  · exact fg_lp_e (by rw [body, if_pos hv])
theorem rd_end {x n : Nat} {l : Int32} {T : Nat → Nat} {mu : bs_Mm} (hT : cT x n T mu) : rd_go x n l n mu = some (.inl mu) := by
  have h2 := hT.2.1
  unfold rd_go
  rw [show n + 1 - n = 0 + 1 by omega]
  refine fg_lp_e ?_
  unfold FX2_read_b7
  rw [hT.1, if_pos (Int32.le_refl _)]
/-- what read makes of it -/
noncomputable def rd_fin (x : Nat) (t : Option (bs_Mm ⊕ (Int32 × bs_Mm))) : Option (Int32 × bs_Mm) := fg_l3 t (fun t12 => if (bs_iv (t12 (x + 9) 5)) = (nI 2) then (if (bs_iv (t12 (x + 9) 10)) = 0 then (if (bs_iv (t12 (x + 9) 7)) ≤ 0 then (fg_bd (FX1_closeUp x (x + 10) t12 (x + 17)) (fun mu15 => some ((-1), mu15))) else (some ((bs_iv (t12 (x + 5) 1)), t12))) else (some ((bs_iv (t12 (x + 5) 1)), t12))) else (some ((bs_iv (t12 (x + 5) 1)), t12))) (fun q16 => some q16)
def cfr (x : Nat) (mu mu' : bs_Mm) : Prop := ∀ a, (a < x + 9 ∨ x + 19 < a) → mu' a = mu a
theorem cfr_rfl (x : Nat) (mu : bs_Mm) : cfr x mu mu := fun _ _ => rfl
theorem cfr_tr {x : Nat} {mu mu1 mu2 : bs_Mm} (h : cfr x mu mu1) (k : cfr x mu1 mu2) : cfr x mu mu2 := fun a ha => (k a ha).trans (h a ha)
theorem cfr_up {x a j : Nat} {v : Value} {mu mu1 : bs_Mm} (h : cfr x mu mu1) (h1 : x + 9 ≤ a) (h2 : a ≤ x + 19) : cfr x mu (bs_up mu1 a j v) := fun c hc => (bs_up_f (by omega)).trans (h c hc)
theorem cT_fr {x n : Nat} {T : Nat → Nat} {mu mu' : bs_Mm} (h : cT x n T mu) (k : cfr x mu mu') : cT x n T mu' := cT_of h (k _ (by omega)) (k _ (by omega))
/-- from here on the class finds its fault at p -/
def rd_F (x n : Nat) (l : Int32) (i : Nat) (mu : bs_Mm) (p : Nat) : Prop := ∃ mu', rd_fin x (rd_go x n l i mu) = some (nI p, mu') ∧ cfr x mu mu'
theorem rd_F_ref {x n i : Nat} {l : Int32} {T : Nat → Nat} {mu mu1 : bs_Mm} (hT : cT x n T mu) (hi : i < n) (h : FX2_takes x mu (nI (T i)) (nI (if tdb n T (i + 1) = true then 1 else 0)) = some (0, mu1)) (hf : cfr x mu mu1) : rd_F x n l i mu i := by
  refine ⟨mu1, ?_, hf⟩
  rw [(rd_step hT hi h).2 rfl]
  rfl
theorem rd_F_go {x n i j p : Nat} {l : Int32} {mu mu1 : bs_Mm} (h : rd_go x n l i mu = rd_go x n l j mu1) (hf : cfr x mu mu1) (k : rd_F x n l j mu1 p) : rd_F x n l i mu p := by
  obtain ⟨mu', k1, k2⟩ := k
  exact ⟨mu', by rw [h]; exact k1, cfr_tr hf k2⟩
theorem rd_F_end {x n : Nat} {l : Int32} {T : Nat → Nat} {mu : bs_Mm} (hT : cT x n T mu) (h : bs_iv (mu (x + 9) 5) ≠ nI 2 ∨ bs_iv (mu (x + 9) 10) ≠ 0 ∨ ¬ bs_iv (mu (x + 9) 7) ≤ 0) : rd_F x n l n mu n := by
  refine ⟨mu, ?_, cfr_rfl x mu⟩
  rw [rd_end hT]
  unfold rd_fin
  rw [fg_l3_l, hT.1]
  by_cases c : bs_iv (mu (x + 9) 5) = nI 2
  · rw [if_pos c]
    by_cases d : bs_iv (mu (x + 9) 10) = 0
    · rw [if_pos d]
      have e : ¬ bs_iv (mu (x + 9) 7) ≤ 0 := by
        rcases h with h | h | h
        · exact absurd c h
        · exact absurd d h
        · exact h
      rw [if_neg e]
    · rw [if_neg d]
  · rw [if_neg c]
/-- blanks -/
theorem sf_blank {x : Nat} {d : Int32} {mu : bs_Mm} : FX2_takes x mu (nI 32) d = some (nI 1, bs_up mu (x + 9) 8 (.int (nI 0))) := by
  have j : FX2_takes_j25 x mu (nI 32) = some (nI 1, bs_up mu (x + 9) 8 (.int (nI 0))) := by
    unfold FX2_takes_j25
    rw [fg_wr_s, if_pos rfl]
  unfold FX2_takes
  by_cases c : bs_iv (mu (x + 9) 5) = nI 2
  · rw [if_pos c, (sf_isD (by decide)).2 (by decide), fg_bd_s, if_pos nI_0, j]
  · rw [if_neg c, j]
theorem rd_skip {x n : Nat} {l : Int32} {T : Nat → Nat} : ∀ (r a a' : Nat) (mu : bs_Mm), a + r = a' → a' ≤ n → cT x n T mu → (∀ i, a ≤ i → i < a' → T i = 32) → ∃ mu', rd_go x n l a mu = rd_go x n l a' mu' ∧ (a' = a → mu' = mu) ∧ (a < a' → bs_iv (mu' (x + 9) 8) = nI 0) ∧ (∀ k, k ≠ 8 → mu' (x + 9) k = mu (x + 9) k) ∧ ∀ c, c ≠ x + 9 → mu' c = mu c := by
  intro r
  induction r with
  | zero =>
    intro a a' mu h1 h2 h3 h4
    have : a' = a := by omega
    subst this
    exact ⟨mu, rfl, fun _ => rfl, fun h => by omega, fun _ _ => rfl, fun _ _ => rfl⟩
  | succ r ih =>
    intro a a' mu h1 h2 h3 h4
    have t := h4 a (Nat.le_refl _) (by omega)
    have st := rd_step (l := l) (v := nI 1) h3 (show a < n by omega) (by rw [t]; exact sf_blank)
    obtain ⟨mu', k1, k2, k3, k4, k5⟩ := ih (a + 1) a' (bs_up mu (x + 9) 8 (.int (nI 0))) (by omega) h2 (cT_of h3 (bs_up_f (by omega)) (bs_up_f (by omega))) fun i i1 i2 => h4 i (by omega) i2
    refine ⟨mu', (st.1 (by decide)).trans k1, fun h => by omega, fun _ => ?_, fun k hk => by rw [k4 k hk, bs_up_j hk], fun c hc => by rw [k5 c hc, bs_up_f hc]⟩
    by_cases c : a + 1 < a'
    · exact k3 c
    · rw [k2 (by omega), bs_up_eq]
      rfl
