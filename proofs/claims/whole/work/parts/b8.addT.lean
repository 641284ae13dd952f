/-! ADDED (own): what it is -/
def ad_a (n : Nat) (f g : Nat → Nat) : Nat → Nat := fun i => if i < n then f i else g (i - n)
theorem ad_l {n i : Nat} {f g : Nat → Nat} (h : i < n) : ad_a n f g i = f i := if_pos h
theorem ad_r {n : Nat} (i : Nat) {f g : Nat → Nat} : ad_a n f g (n + i) = g i := by
  unfold ad_a
  rw [if_neg (by omega), Nat.add_sub_cancel_left]
def ad_j (n p q r : Nat) : Nat := if r = q then p else n + r - (if q < r then 1 else 0)
def ad_T0 (A B : bs_G) (p q : Nat) : bs_G := ((g_nb A + g_nb B, g_nu A + g_nu B, g_np A + g_np B - 1, 0), ad_a (g_nb A) (g_so A) (g_so B), ad_a (g_nu A) (g_le A) (g_le B), ad_a (g_nu A) (g_fr A) (fun i => ad_j (g_np A) p q (g_fr B i)), ad_a (g_nu A) (g_to A) (fun i => ad_j (g_np A) p q (g_to B i)), ad_a (g_nu A) (g_bo A) (fun i => g_nb A + g_bo B i))
def ad_T (A B : bs_G) (p q : Nat) : bs_G := ((g_nb A + g_nb B, g_nu A + g_nu B, g_np A + g_np B - 1, g_hn (ad_T0 A B p q) (g_nu A + g_nu B)), (ad_T0 A B p q).2)
theorem ad_hn (A B : bs_G) (p q : Nat) : ∀ n, g_hn (ad_T A B p q) n = g_hn (ad_T0 A B p q) n := by
  intro n
  induction n with
  | zero => rfl
  | succ n ih =>
    show max (g_hn (ad_T A B p q) n) (g_sm (g_sl (g_pf (ad_T A B p q) (n + 1))) (n + 1)) = max (g_hn (ad_T0 A B p q) n) (g_sm (g_sl (g_pf (ad_T0 A B p q) (n + 1))) (n + 1))
    rw [ih]
    rfl
theorem ad_pqT (A B : bs_G) (p q : Nat) : g_pq (ad_T A B p q) (g_nb A + g_nb B) (g_nu A + g_nu B) = ad_T A B p q := by
  show ((g_nb A + g_nb B, g_nu A + g_nu B, g_np A + g_np B - 1, g_hn (ad_T A B p q) (g_nu A + g_nu B)), (ad_T0 A B p q).2) = _
  rw [ad_hn]
  rfl
theorem g_sm_app (h : Nat → Nat) (n : Nat) : ∀ m, g_sm h (n + m) = g_sm h n + g_sm (fun i => h (n + i)) m := by
  intro m
  induction m with
  | zero => rfl
  | succ m ih =>
    show g_sm h (n + m) + h (n + m) = g_sm h n + (g_sm (fun i => h (n + i)) m + h (n + m))
    omega
theorem ad_jl {n k p q r : Nat} (hp : p < n) (hq : q < k) (hr : r < k) : ad_j n p q r < n + k - 1 := by
  unfold ad_j
  by_cases e : r = q
  · rw [if_pos e]
    omega
  · rw [if_neg e]
    by_cases d : q < r
    · rw [if_pos d]
      omega
    · rw [if_neg d]
      omega
theorem ad_fa {A B : bs_G} {p q i : Nat} (h : i < g_nu A) : g_le (ad_T A B p q) i = g_le A i ∧ g_fr (ad_T A B p q) i = g_fr A i ∧ g_to (ad_T A B p q) i = g_to A i ∧ g_bo (ad_T A B p q) i = g_bo A i := ⟨ad_l (f := g_le A) (g := g_le B) h, ad_l (f := g_fr A) (g := fun i => ad_j (g_np A) p q (g_fr B i)) h, ad_l (f := g_to A) (g := fun i => ad_j (g_np A) p q (g_to B i)) h, ad_l (f := g_bo A) (g := fun i => g_nb A + g_bo B i) h⟩
theorem ad_fb {A B : bs_G} {p q : Nat} (i : Nat) : g_le (ad_T A B p q) (g_nu A + i) = g_le B i ∧ g_fr (ad_T A B p q) (g_nu A + i) = ad_j (g_np A) p q (g_fr B i) ∧ g_to (ad_T A B p q) (g_nu A + i) = ad_j (g_np A) p q (g_to B i) ∧ g_bo (ad_T A B p q) (g_nu A + i) = g_nb A + g_bo B i := ⟨ad_r (n := g_nu A) (f := g_le A) (g := g_le B) i, ad_r (n := g_nu A) (f := g_fr A) (g := fun i => ad_j (g_np A) p q (g_fr B i)) i, ad_r (n := g_nu A) (f := g_to A) (g := fun i => ad_j (g_np A) p q (g_to B i)) i, ad_r (n := g_nu A) (f := g_bo A) (g := fun i => g_nb A + g_bo B i) i⟩
theorem ad_iv {A B : bs_G} {p q : Nat} (hA : g_iv A) (hB : g_iv B) (hp : p < g_np A) (hq : q < g_np B) (h24 : g_nu A + g_nu B ≤ 24) (h6 : g_nb A + g_nb B ≤ 6) : g_iv (ad_T A B p q) := by
  have a0 := g_bn hA.1
  have b0 := g_bn hB.1
  have a3 := hA.2.2.1
  have b3 := hB.2.2.1
  have hh := g_hn_le (ad_T0 A B p q) (g_nu A + g_nu B)
  have nT : g_nu (ad_T A B p q) = g_nu A + g_nu B := rfl
  have split : ∀ i, i < g_nu A + g_nu B → i < g_nu A ∨ ∃ k, k < g_nu B ∧ i = g_nu A + k := fun i hi => by
    by_cases c : i < g_nu A
    · exact Or.inl c
    · exact Or.inr ⟨i - g_nu A, by omega, by omega⟩
  refine ⟨⟨h6, h24, show g_np A + g_np B - 1 ≤ 30 by omega, fun i hi => ?_, fun b hb => ?_, fun b hb => ?_, show g_hn (ad_T0 A B p q) (g_nu A + g_nu B) ≤ 24 by omega, fun i hi => ?_⟩, fun i hi => ?_, show g_np A + g_np B - 1 ≤ g_nb A + g_nb B + (g_nu A + g_nu B) by omega, fun i hi => ?_⟩
  · show _ < g_np A + g_np B - 1 ∧ _ < g_np A + g_np B - 1 ∧ _ < g_nb A + g_nb B
    rcases split i hi with c | ⟨k, k1, k2⟩
    · have b1 := g_bd hA.1 c
      rw [(ad_fa c).2.1, (ad_fa c).2.2.1, (ad_fa c).2.2.2]
      omega
    · subst k2
      have b1 := g_bd hB.1 k1
      rw [(ad_fb k).2.1, (ad_fb k).2.2.1, (ad_fb k).2.2.2]
      exact ⟨ad_jl hp hq b1.1, ad_jl hp hq b1.2.1, by omega⟩
  · have hb : b < g_nb A + g_nb B := hb
    by_cases c : b < g_nb A
    · show ad_a (g_nb A) (g_so A) (g_so B) b < 6
      rw [ad_l c]
      exact hA.1.2.2.2.2.1 b c
    · have e : b = g_nb A + (b - g_nb A) := by omega
      rw [e]
      show ad_a (g_nb A) (g_so A) (g_so B) (g_nb A + (b - g_nb A)) < 6
      rw [ad_r]
      exact hB.1.2.2.2.2.1 _ (by omega)
  · have hb : b < g_nb A + g_nb B := hb
    rw [nT, g_sm_app]
    have e1 : g_sm (fun i => if g_bo (ad_T A B p q) i = b then g_le (ad_T A B p q) i else 0) (g_nu A) = g_sm (fun i => if g_bo A i = b then g_le A i else 0) (g_nu A) := g_sm_cg _ fun i hi => by
      show (if g_bo (ad_T A B p q) i = b then g_le (ad_T A B p q) i else 0) = _
      rw [(ad_fa hi).1, (ad_fa hi).2.2.2]
    have e2 : g_sm (fun i => if g_bo (ad_T A B p q) (g_nu A + i) = b then g_le (ad_T A B p q) (g_nu A + i) else 0) (g_nu B) = g_sm (fun i => if g_nb A + g_bo B i = b then g_le B i else 0) (g_nu B) := g_sm_cg _ fun i hi => by
      show (if g_bo (ad_T A B p q) (g_nu A + i) = b then g_le (ad_T A B p q) (g_nu A + i) else 0) = _
      rw [(ad_fb i).1, (ad_fb i).2.2.2]
    rw [e1, e2]
    by_cases c : b < g_nb A
    · have z : g_sm (fun i => if g_nb A + g_bo B i = b then g_le B i else 0) (g_nu B) = 0 := g_sm_z _ fun i _ => if_neg (by omega)
      rw [z]
      exact hA.1.2.2.2.2.2.1 b c
    · have z : g_sm (fun i => if g_bo A i = b then g_le A i else 0) (g_nu A) = 0 := g_sm_z _ fun i hi => if_neg (by
        have := g_bd hA.1 hi
        omega)
      have w : g_sm (fun i => if g_nb A + g_bo B i = b then g_le B i else 0) (g_nu B) = g_sm (fun i => if g_bo B i = b - g_nb A then g_le B i else 0) (g_nu B) := g_sm_cg _ fun i hi => by
        by_cases d : g_bo B i = b - g_nb A
        · rw [if_pos d, if_pos (by omega)]
        · rw [if_neg d, if_neg (by omega)]
      rw [z, w, Nat.zero_add]
      exact hB.1.2.2.2.2.2.1 _ (by omega)
  · rw [nT] at hi
    rcases split i (by omega) with c | ⟨k, k1, k2⟩
    · rcases split (i + 1) hi with d | ⟨k, k1, k2⟩
      · rw [(ad_fa c).2.2.2, (ad_fa d).2.2.2]
        exact hA.1.2.2.2.2.2.2.2 i d
      · have b1 := g_bd hA.1 c
        rw [k2, (ad_fa c).2.2.2, (ad_fb k).2.2.2]
        omega
    · subst k2
      rw [show g_nu A + k + 1 = g_nu A + (k + 1) by omega, (ad_fb k).2.2.2, (ad_fb (k + 1)).2.2.2]
      have := hB.1.2.2.2.2.2.2.2 k (by omega)
      omega
  · obtain ⟨-, t2, t3⟩ := g_tw_in (G := ad_T A B p q) (i := i) (by omega)
    rw [nT] at t2
    rcases split i (by omega) with c | ⟨k, k1, k2⟩
    · rcases split (i + 1) t2 with d | ⟨k, k1, k2⟩
      · rw [(ad_fa c).2.2.2, (ad_fa d).2.2.2] at t3
        rw [(ad_fa c).2.2.1, (ad_fa d).2.1]
        exact hA.2.1 i (g_if1 ⟨d, t3⟩)
      · have b1 := g_bd hA.1 c
        rw [k2, (ad_fa c).2.2.2, (ad_fb k).2.2.2] at t3
        omega
    · subst k2
      rw [show g_nu A + k + 1 = g_nu A + (k + 1) by omega] at t3 ⊢
      rw [(ad_fb k).2.2.2, (ad_fb (k + 1)).2.2.2] at t3
      rw [(ad_fb k).2.2.1, (ad_fb (k + 1)).2.1, hB.2.1 k (g_if1 ⟨by omega, by omega⟩)]
  · rcases split i hi with c | ⟨k, k1, k2⟩
    · rw [(ad_fa c).1]
      exact hA.2.2.2 i c
    · subst k2
      rw [(ad_fb k).1]
      exact hB.2.2.2 k k1
def ad_may (fc : Nat) (FG : Nat → bs_G) (a b c d : Int32) : Prop := ∃ i j p q, a = nI i ∧ b = nI j ∧ c = nI p ∧ d = nI q ∧ i < fc ∧ j < fc ∧ p < g_np (FG i) ∧ q < g_np (FG j) ∧ g_nu (FG i) + g_nu (FG j) ≤ 24 ∧ g_nb (FG i) + g_nb (FG j) ≤ 6 ∧ fc < 12
