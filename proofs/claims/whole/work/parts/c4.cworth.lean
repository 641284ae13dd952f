/-! RULES of the class (own): what worthBy answers -/
theorem nI_ng {q k : Nat} (h : q < 2 ^ 30) (hk : 0 < k) (hk2 : k < 2 ^ 20) : ¬ nI q = -(nI k) := fun e => by
  have a := nI_toInt (n := q) (by omega)
  have b := nI_toInt (n := k) (by omega)
  have c : nI q + nI k = 0 := by rw [e, Int32.add_left_neg]
  rw [fn_add, ← nI_0] at c
  have := (nI_eq (show q + k < 2 ^ 31 by omega) (by decide)).mp c
  omega
def u_c (i : Nat) : Int32 := if i < 20000 then nI i else -(nI (i - 30000))
def u_s (st : Nat → Int32) : Nat → List Nat → Prop
  | _, [] => True
  | b, i :: c => st b = u_c i ∧ u_s st (b + 1) c
def u_r (st : Nat → Int32) : Nat → bs_U → Prop
  | _, [] => True
  | b, q :: U => if q.1 = [] then u_s st b q.2 ∧ st (b + q.2.length) = -59 ∧ u_r st (b + q.2.length + 1) U else u_s st b q.1 ∧ st (b + q.1.length) = nI (20000 + (b + q.1.length + 1 + q.2.length + 1)) ∧ u_s st (b + q.1.length + 1) q.2 ∧ st (b + q.1.length + 1 + q.2.length) = -59 ∧ u_r st (b + q.1.length + 1 + q.2.length + 1) U
def u_z : bs_U → Nat
  | [] => 0
  | q :: U => (if q.1 = [] then 0 else q.1.length + 1) + q.2.length + 1 + u_z U
/-- a rule of the class -/
def cUv (u : Nat) (U : bs_U) (mu : bs_Mm) : Prop := bs_iv (mu u 1) = nI (u_z U) ∧ u_r (fun j => bs_iv (mu (u + 1) j)) 0 U ∧ u_z U ≤ 201
theorem cUv_of {u : Nat} {U : bs_U} {mu mu' : bs_Mm} (h : cUv u U mu) (e0 : mu' u = mu u) (e1 : mu' (u + 1) = mu (u + 1)) : cUv u U mu' := by
  unfold cUv
  rw [e0, e1]
  exact h
theorem sf_jd {x c : Nat} {mu : bs_Mm} {a b : Int64} (h : c = 38 ∨ c = 42 ∨ c = 43 ∨ c = 45 ∨ c = 47 ∨ c = 60 ∨ c = 61 ∨ c = 62 ∨ c = 124) : FX6_joined x mu (nI c) a b = some (rv_o true c a b) := by
  have w : ∀ v, FX6_within x mu v = some (rv_w v) := fun v => by
    unfold FX6_within rv_w
    rfl
  unfold FX6_joined
  rcases h with h | h | h | h | h | h | h | h | h
  · subst h
    rw [if_pos rfl, rv_o, if_pos rfl, if_pos rfl]
  · subst h
    rw [if_neg (by decide), if_pos rfl, w, fg_bd_s, rv_o, if_neg (by decide), if_neg (by decide), rv_a, if_pos rfl]
  · subst h
    rw [if_neg (by decide), if_neg (by decide), if_pos rfl, w, fg_bd_s, rv_o, if_neg (by decide), if_neg (by decide), rv_a, if_neg (by decide), if_pos rfl]
  · subst h
    rw [if_neg (by decide), if_neg (by decide), if_neg (by decide), if_pos rfl, w, fg_bd_s, rv_o, if_neg (by decide), if_neg (by decide), rv_a, if_neg (by decide), if_neg (by decide), if_pos rfl]
  · subst h
    have e : rv_o true 47 a b = if lg_cmp b 0 = 0 then 0 else rv_w (a / b) := by rw [rv_o, if_neg (by decide), if_neg (by decide), rv_a, if_neg (by decide), if_neg (by decide), if_neg (by decide), if_pos rfl]
    rw [e, if_neg (by decide), if_neg (by decide), if_neg (by decide), if_neg (by decide), if_pos rfl]
    by_cases z : lg_cmp b 0 = 0
    · rw [if_pos z, if_pos z]
    · have hb : ¬ b = 0 := fun e => z (by rw [e]; rfl)
      rw [if_neg z, if_neg z, fg_dt hb, fg_gd_t, w, fg_bd_s]
  · subst h
    have e : rv_o true 60 a b = if 0 ≤ lg_cmp a b then 0 else 1 := by rw [rv_o, if_neg (by decide), if_neg (by decide), rv_a, if_neg (by decide), if_neg (by decide), if_neg (by decide), if_neg (by decide), if_pos rfl]
    rw [e, if_neg (by decide), if_neg (by decide), if_neg (by decide), if_neg (by decide), if_neg (by decide), if_pos rfl]
    by_cases z : 0 ≤ lg_cmp a b
    · rw [if_pos z, if_pos z]
    · rw [if_neg z, if_neg z]
  · subst h
    have e : rv_o true 61 a b = if lg_cmp a b = 0 then 1 else 0 := by rw [rv_o, if_neg (by decide), if_neg (by decide), rv_a, if_neg (by decide), if_neg (by decide), if_neg (by decide), if_neg (by decide), if_neg (by decide), if_pos rfl]
    rw [e, if_neg (by decide), if_neg (by decide), if_neg (by decide), if_neg (by decide), if_neg (by decide), if_neg (by decide), if_pos rfl]
    by_cases z : lg_cmp a b = 0
    · rw [if_pos z, if_pos z]
    · rw [if_neg z, if_neg z]
  · subst h
    have e : rv_o true 62 a b = if lg_cmp a b ≤ 0 then 0 else 1 := by rw [rv_o, if_neg (by decide), if_neg (by decide), rv_a, if_neg (by decide), if_neg (by decide), if_neg (by decide), if_neg (by decide), if_neg (by decide), if_neg (by decide)]
    rw [e, if_neg (by decide), if_neg (by decide), if_neg (by decide), if_neg (by decide), if_neg (by decide), if_neg (by decide), if_neg (by decide), if_pos rfl]
    by_cases z : lg_cmp a b ≤ 0
    · rw [if_pos z, if_pos z]
    · rw [if_neg z, if_neg z]
  · subst h
    rw [if_neg (by decide), if_neg (by decide), if_neg (by decide), if_neg (by decide), if_neg (by decide), if_neg (by decide), if_neg (by decide), if_neg (by decide), rv_o, if_neg (by decide), if_pos rfl, if_pos rfl]
theorem rv_R_up {mu : bs_Mm} {p t : Nat} {v : Nat → Int64} {a : Int64} (h : ∀ j, j < t → bs_lv (mu p j) = v j) {k t' : Nat} (hk : ∀ j, j < t' → j ≠ k → j < t) : ∀ j, j < t' → bs_lv (bs_up mu p k (.long a) p j) = rv_f v k a j := fun j hj => by
  by_cases e : j = k
  · subst e
    rw [bs_up_eq, rv_fs]
    rfl
  · rw [bs_up_j e, rv_fn e]
    exact h j (hk j hj e)
/-- a sign is reckoned -/
theorem sf_reck {x p c t : Nat} {mu : bs_Mm} {v v1 : Nat → Int64} {t1 : Nat} (ht : t ≤ 200) (h : c = 33 ∨ c = 38 ∨ c = 42 ∨ c = 43 ∨ c = 45 ∨ c = 47 ∨ c = 60 ∨ c = 61 ∨ c = 62 ∨ c = 124) (hx : rv_1 true (fun _ => 0) (30000 + c) v t = some (v1, t1)) (hR : ∀ j, j < t → bs_lv (mu p j) = v j) : ∃ mu', FX6_reckon x mu (nI c) p (nI t) = some (nI t1, mu') ∧ (∀ j, j < t1 → bs_lv (mu' p j) = v1 j) ∧ ∀ a, a ≠ p → mu' a = mu a := by
  rw [rv_1, if_neg (by omega), if_neg (by omega)] at hx
  by_cases e : c = 33
  · subst e
    rw [if_pos rfl] at hx
    by_cases z : t = 0
    · rw [if_pos z] at hx
      cases hx
    · rw [if_neg z] at hx
      have hx := Option.some.inj hx
      have h1 : v1 = rv_f v (t - 1) (rv_n true (v (t - 1))) := (congrArg (fun s => s.1) hx).symm
      have h2 : t1 = t := (congrArg (fun s => s.2) hx).symm
      subst h1
      subst h2
      have r := hR (t1 - 1) (by omega)
      refine ⟨bs_up mu p (t1 - 1) (.long (rv_n true (v (t1 - 1)))), ?_, rv_R_up hR (fun j hj _ => hj), fun a ha => bs_up_f ha⟩
      unfold FX6_reckon
      rw [if_pos rfl, if_neg (fun w => by have := (nI_ltI (show t1 < 2 ^ 31 by omega) (by decide)).mp w; omega), fn_sub (by omega), fn_in (show t1 - 1 < 200 by omega) (by decide), fg_gd_t, fn_cl (show t1 - 1 < 2 ^ 31 by omega), r]
      unfold rv_n
      rw [if_pos rfl]
      by_cases w : lg_cmp (v (t1 - 1)) 0 = 0
      · rw [if_pos w, if_pos w, fg_gd_t, fg_wr_s]
      · rw [if_neg w, if_neg w, fg_gd_t, fg_wr_s]
  · rw [if_neg (by omega)] at hx
    by_cases z : t < 2
    · rw [if_pos z] at hx
      cases hx
    · rw [if_neg z, Nat.add_sub_cancel_left] at hx
      have hx := Option.some.inj hx
      have h1 : v1 = rv_f v (t - 2) (rv_o true c (v (t - 2)) (v (t - 1))) := (congrArg (fun s => s.1) hx).symm
      have h2 : t1 = t - 1 := (congrArg (fun s => s.2) hx).symm
      subst h1
      subst h2
      have r1 := hR (t - 1) (by omega)
      have r2 := hR (t - 2) (by omega)
      refine ⟨bs_up mu p (t - 2) (.long (rv_o true c (v (t - 2)) (v (t - 1)))), ?_, rv_R_up hR (fun j hj _ => by omega), fun a ha => bs_up_f ha⟩
      unfold FX6_reckon
      rw [if_neg (fun w => e ((nI_eq (show c < 2 ^ 31 by omega) (by decide)).mp w))]
      unfold FX6_reckon_j33
      rw [if_pos ((nI_leI (by decide) (show t < 2 ^ 31 by omega)).mpr (by omega)), fn_sub (show 2 ≤ t by omega), fn_sub (show 1 ≤ t by omega), fn_in (show t - 2 < 200 by omega) (by decide), fg_gd_t, fn_in (show t - 1 < 200 by omega) (by decide), fg_gd_t, fn_cl (show t - 1 < 2 ^ 31 by omega), fn_cl (show t - 2 < 2 ^ 31 by omega), r1, r2, sf_jd (by omega), fg_bd_s, fg_gd_t, fg_wr_s]
/-- one step -/
theorem sf_w1 {x u p1 p2 i b t z : Nat} {mu : bs_Mm} {E : Nat → Int32} {v v1 : Nat → Int64} {t1 : Nat} (hi : rv_ok i) (hst : bs_iv (mu (u + 1) b) = u_c i) (hz : bs_iv (mu u 1) = nI z) (hbz : b < z) (hz2 : z ≤ 201) (hb : b < 200) (ht : t ≤ b) (hE : ∀ k, k < 5 → bs_iv (mu p1 k) = E k) (hx : rv_1 true E i v t = some (v1, t1)) (hR : ∀ j, j < t → bs_lv (mu p2 j) = v j) : ∃ mu', FX6_worthBy_b5 x u p1 p2 (nI t, nI b, mu) = some (.inl (nI t1, nI (b + 1), mu')) ∧ (∀ j, j < t1 → bs_lv (mu' p2 j) = v1 j) ∧ ∀ a, a ≠ p2 → mu' a = mu a := by
  by_cases c : i < 20000
  · have hi : i < 10005 := by
      rcases hi with h | h | h | h | h | h | h | h | h | h | h <;> omega
    have e : u_c i = nI i := if_pos c
    rw [e] at hst
    have n59 : ¬ nI i = -59 := nI_ng (k := 59) (by omega) (by decide) (by decide)
    by_cases d : i < 10000
    · rw [rv_1, if_pos d] at hx
      have hx := Option.some.inj hx
      have h1 : v1 = rv_f v t (nI i).toInt64 := (congrArg (fun s => s.1) hx).symm
      have h2 : t1 = t + 1 := (congrArg (fun s => s.2) hx).symm
      subst h1
      subst h2
      refine ⟨bs_up mu p2 t (.long (nI i).toInt64), ?_, rv_R_up hR (fun j hj _ => by omega), fun a ha => bs_up_f ha⟩
      unfold FX6_worthBy_b5
      simp (disch := omega) only [fg_gd_t, fg_bd_s, fg_b2_s, fg_wr_s, fg_let_s, fn_add, fn_sub, fn_mul, fn_cl, fn_lt, fn_le, fn_eq, fn_eq0, fn_lt0, fn_0le, fn_0lt, fn_le0, fn_in, fn_shl, fn_shr, fa_and, fa_or, bs_xorI, if_true, if_false, hz, hst, if_neg (show ¬ z ≤ b by omega), if_neg n59, if_pos (show i < 20000 by omega), if_neg (show ¬ 200 ≤ t by omega), if_pos d]
    · rw [rv_1, if_neg d, if_pos c] at hx
      have hx := Option.some.inj hx
      have h1 : v1 = rv_f v t (E (i - 10000)).toInt64 := (congrArg (fun s => s.1) hx).symm
      have h2 : t1 = t + 1 := (congrArg (fun s => s.2) hx).symm
      subst h1
      subst h2
      refine ⟨bs_up mu p2 t (.long (E (i - 10000)).toInt64), ?_, rv_R_up hR (fun j hj _ => by omega), fun a ha => bs_up_f ha⟩
      unfold FX6_worthBy_b5
      simp (disch := omega) only [fg_gd_t, fg_bd_s, fg_b2_s, fg_wr_s, fg_let_s, fn_add, fn_sub, fn_mul, fn_cl, fn_lt, fn_le, fn_eq, fn_eq0, fn_lt0, fn_0le, fn_0lt, fn_le0, fn_in, fn_shl, fn_shr, fa_and, fa_or, bs_xorI, if_true, if_false, hz, hst, if_neg (show ¬ z ≤ b by omega), if_neg n59, if_pos (show i < 20000 by omega), if_neg (show ¬ 200 ≤ t by omega), if_neg d, hE (i - 10000) (by omega)]
  · obtain ⟨k, hk⟩ : ∃ k, i = 30000 + k := ⟨i - 30000, by rcases hi with h | h | h | h | h | h | h | h | h | h | h <;> omega⟩
    subst hk
    have hk : k = 33 ∨ k = 38 ∨ k = 42 ∨ k = 43 ∨ k = 45 ∨ k = 47 ∨ k = 60 ∨ k = 61 ∨ k = 62 ∨ k = 124 := by
      rcases hi with h | h | h | h | h | h | h | h | h | h | h <;> omega
    have e : u_c (30000 + k) = -(nI k) := by
      unfold u_c
      rw [if_neg (by omega), Nat.add_sub_cancel_left]
    rw [e] at hst
    have hx : rv_1 true (fun _ => 0) (30000 + k) v t = some (v1, t1) := by
      rw [rv_1, if_neg (by omega), if_neg (by omega)] at hx ⊢
      exact hx
    obtain ⟨mu', a1, a2, a3⟩ := sf_reck (x := x) (p := p2) (by omega) hk hx hR
    have f : (¬ -(nI k) = -59) ∧ (-(nI k) < nI 20000) ∧ (¬ (0 : Int32) ≤ -(nI k)) ∧ -(-(nI k)) = nI k := by
      rcases hk with h | h | h | h | h | h | h | h | h | h <;> (subst h; decide)
    refine ⟨mu', ?_, a2, a3⟩
    unfold FX6_worthBy_b5
    simp (disch := omega) only [fg_gd_t, fg_bd_s, fg_b2_s, fg_wr_s, fg_let_s, fn_add, fn_sub, fn_mul, fn_cl, fn_lt, fn_le, fn_eq, fn_eq0, fn_lt0, fn_0le, fn_0lt, fn_le0, fn_in, fn_shl, fn_shr, fa_and, fa_or, bs_xorI, if_true, if_false, hz, hst, if_neg (show ¬ z ≤ b by omega), if_neg f.1, if_pos f.2.1, if_neg f.2.2.1, f.2.2.2, a1]
/-- a row of steps -/
theorem sf_seg {x u p1 p2 z : Nat} {E : Nat → Int32} (hp : p1 ≠ p2) (hu : u ≠ p2) (hu1 : u + 1 ≠ p2) (hz2 : z ≤ 201) : ∀ (c : List Nat) (b t t1 : Nat) (v v1 : Nat → Int64) (mu : bs_Mm), u_s (fun j => bs_iv (mu (u + 1) j)) b c → rv_ko c → bs_iv (mu u 1) = nI z → b + c.length < z → t ≤ b → (∀ k, k < 5 → bs_iv (mu p1 k) = E k) → rv_x true E c v t = some (v1, t1) → (∀ j, j < t → bs_lv (mu p2 j) = v j) → ∃ mu', (∀ n, fg_lp (FX6_worthBy_b5 x u p1 p2) (c.length + n) (nI t, nI b, mu) = fg_lp (FX6_worthBy_b5 x u p1 p2) n (nI t1, nI (b + c.length), mu')) ∧ (∀ j, j < t1 → bs_lv (mu' p2 j) = v1 j) ∧ ∀ a, a ≠ p2 → mu' a = mu a := by
  intro c
  induction c with
  | nil =>
    intro b t t1 v v1 mu h1 h2 h3 h4 h5 h6 h7 h8
    have hx := Option.some.inj h7
    have e1 : v1 = v := (congrArg (fun s => s.1) hx).symm
    have e2 : t1 = t := (congrArg (fun s => s.2) hx).symm
    subst e1
    subst e2
    exact ⟨mu, fun n => by rw [List.length_nil, Nat.zero_add, Nat.add_zero], h8, fun _ _ => rfl⟩
  | cons i c ih =>
    intro b t t1 v v1 mu h1 h2 h3 h4 h5 h6 h7 h8
    rw [List.length_cons] at h4
    have h7 : (rv_1 true E i v t).bind (fun s => rv_x true E c s.1 s.2) = some (v1, t1) := h7
    cases hs : rv_1 true E i v t with
    | none => rw [hs] at h7; cases h7
    | some s =>
      rw [hs] at h7
      have h7 : rv_x true E c s.1 s.2 = some (v1, t1) := h7
      have hs2 : s.2 ≤ t + 1 := by
        rw [rv_1] at hs
        by_cases d1 : i < 10000
        · rw [if_pos d1] at hs
          rw [← Option.some.inj hs]
          exact Nat.le_refl _
        · rw [if_neg d1] at hs
          by_cases d2 : i < 20000
          · rw [if_pos d2] at hs
            rw [← Option.some.inj hs]
            exact Nat.le_refl _
          · rw [if_neg d2] at hs
            by_cases d3 : i = 30033
            · rw [if_pos d3] at hs
              by_cases d4 : t = 0
              · rw [if_pos d4] at hs
                cases hs
              · rw [if_neg d4] at hs
                rw [← Option.some.inj hs]
                show t ≤ t + 1
                omega
            · rw [if_neg d3] at hs
              by_cases d4 : t < 2
              · rw [if_pos d4] at hs
                cases hs
              · rw [if_neg d4] at hs
                rw [← Option.some.inj hs]
                show t - 1 ≤ t + 1
                omega
      obtain ⟨mu1, a1, a2, a3⟩ := sf_w1 (x := x) (p1 := p1) (v1 := s.1) (t1 := s.2) (h2 i (List.mem_cons_self ..)) h1.1 h3 (by omega) hz2 (by omega) h5 h6 hs h8
      obtain ⟨mu2, b1, b2, b3⟩ := ih (b + 1) s.2 t1 s.1 v1 mu1 (by rw [a3 _ hu1]; exact h1.2) (fun k hk => h2 k (List.mem_cons_of_mem _ hk)) (by rw [a3 _ hu]; exact h3) (by omega) (by omega) (fun k hk => by rw [a3 _ hp]; exact h6 k hk) h7 a2
      refine ⟨mu2, fun n => ?_, b2, fun a ha => (b3 a ha).trans (a3 a ha)⟩
      rw [List.length_cons, show c.length + 1 + n = (c.length + n) + 1 by omega, fg_lp_s a1, b1 n, show b + 1 + c.length = b + (c.length + 1) by omega]
/-- clause by clause -/
theorem sf_clz {x u p1 p2 z : Nat} {E : Nat → Int32} (hp : p1 ≠ p2) (hu : u ≠ p2) (hu1 : u + 1 ≠ p2) (hz2 : z ≤ 201) : ∀ (U : bs_U) (b : Nat) (mu : bs_Mm), u_r (fun j => bs_iv (mu (u + 1) j)) b U → (∀ q, q ∈ U → u_k q) → bs_iv (mu u 1) = nI z → b + u_z U = z → (∀ k, k < 5 → bs_iv (mu p1 k) = E k) → ∀ n, u_z U < n → ∃ mu', (fg_lp (FX6_worthBy_b5 x u p1 p2) n (nI 0, nI b, mu) = some (.inr (u_v E U, mu')) ∨ (fg_lp (FX6_worthBy_b5 x u p1 p2) n (nI 0, nI b, mu) = some (.inl mu') ∧ u_v E U = nI 0)) ∧ ∀ a, a ≠ p2 → mu' a = mu a := by
  intro U
  induction U with
  | nil =>
    intro b mu h1 h2 h3 h4 h5 n hn
    have h4 : b + 0 = z := h4
    match n, hn with
    | n + 1, _ =>
      refine ⟨mu, Or.inr ⟨fg_lp_e ?_, rfl⟩, fun _ _ => rfl⟩
      unfold FX6_worthBy_b5
      simp (disch := omega) only [fg_gd_t, fg_bd_s, fg_b2_s, fg_wr_s, fg_let_s, fn_add, fn_sub, fn_mul, fn_cl, fn_lt, fn_le, fn_eq, fn_eq0, fn_lt0, fn_0le, fn_0lt, fn_le0, fn_in, fn_shl, fn_shr, fa_and, fa_or, bs_xorI, if_true, if_false, h3, if_pos (show z ≤ b by omega)]
  | cons q U ih =>
    intro b mu h1 h2 h3 h4 h5 n hn
    have hk := h2 q (List.mem_cons_self ..)
    have hU : ∀ r, r ∈ U → u_k r := fun r hr => h2 r (List.mem_cons_of_mem _ hr)
    have fin : ∀ (b2 : Nat) (mu1 : bs_Mm) (n : Nat), (∀ a, a ≠ p2 → mu1 a = mu a) → u_s (fun j => bs_iv (mu (u + 1) j)) b2 q.2 → bs_iv (mu (u + 1) (b2 + q.2.length)) = -59 → b2 + q.2.length < z → q.2.length + 1 < n → ∃ mu', fg_lp (FX6_worthBy_b5 x u p1 p2) n (nI 0, nI b2, mu1) = some (.inr ((rv_v E q.2).toInt32, mu')) ∧ ∀ a, a ≠ p2 → mu' a = mu a := by
      intro b2 mu1 n hf hs h59 hb hn
      obtain ⟨v1, c1, c2, -⟩ := rv_SP hk.2.2.2 E true (fun _ => 0) 0
      obtain ⟨mu2, d1, d2, d3⟩ := sf_seg (x := x) hp hu hu1 hz2 q.2 b2 0 1 (fun _ => 0) v1 mu1 (by rw [hf _ hu1]; exact hs) hk.2.1 (by rw [hf _ hu]; exact h3) hb (Nat.zero_le _) (fun k hk => by rw [hf _ hp]; exact h5 k hk) c1 (fun j hj => absurd hj (Nat.not_lt_zero j))
      refine ⟨mu2, ?_, fun a ha => (d3 a ha).trans (hf a ha)⟩
      obtain ⟨r, hr⟩ : ∃ r, n = q.2.length + (r + 1) := ⟨n - q.2.length - 1, by omega⟩
      rw [hr, d1]
      refine fg_lp_e ?_
      have e3 : bs_iv (mu2 u 1) = nI z := by rw [d3 _ hu, hf _ hu]; exact h3
      have e59 : bs_iv (mu2 (u + 1) (b2 + q.2.length)) = -59 := by rw [d3 _ hu1, hf _ hu1]; exact h59
      have e0 : bs_lv (mu2 p2 0) = rv_v E q.2 := by rw [d2 0 (by decide)]; exact c2
      unfold FX6_worthBy_b5
      simp (disch := omega) only [fg_gd_t, fg_bd_s, fg_b2_s, fg_wr_s, fg_let_s, fn_add, fn_sub, fn_mul, fn_cl, fn_lt, fn_le, fn_eq, fn_eq0, fn_lt0, fn_0le, fn_0lt, fn_le0, fn_in, fn_shl, fn_shr, fa_and, fa_or, bs_xorI, if_true, if_false, e3, e59, if_neg (show ¬ z ≤ b2 + q.2.length by omega), if_neg (show ¬ (1 : Nat) = 0 by decide), Nat.sub_self, e0]
    by_cases c : q.1 = []
    · have h1 : u_s (fun j => bs_iv (mu (u + 1) j)) b q.2 ∧ bs_iv (mu (u + 1) (b + q.2.length)) = -59 ∧ u_r (fun j => bs_iv (mu (u + 1) j)) (b + q.2.length + 1) U := (if_pos c).mp h1
      have h4 : b + ((if q.1 = [] then 0 else q.1.length + 1) + q.2.length + 1 + u_z U) = z := h4
      have hn : (if q.1 = [] then 0 else q.1.length + 1) + q.2.length + 1 + u_z U < n := hn
      rw [if_pos c] at h4 hn
      obtain ⟨mu', k1, k2⟩ := fin b mu n (fun _ _ => rfl) h1.1 h1.2.1 (by omega) (by omega)
      refine ⟨mu', Or.inl ?_, k2⟩
      rw [k1, u_v, if_pos (Or.inl c)]
    · have h1 : u_s (fun j => bs_iv (mu (u + 1) j)) b q.1 ∧ bs_iv (mu (u + 1) (b + q.1.length)) = nI (20000 + (b + q.1.length + 1 + q.2.length + 1)) ∧ u_s (fun j => bs_iv (mu (u + 1) j)) (b + q.1.length + 1) q.2 ∧ bs_iv (mu (u + 1) (b + q.1.length + 1 + q.2.length)) = -59 ∧ u_r (fun j => bs_iv (mu (u + 1) j)) (b + q.1.length + 1 + q.2.length + 1) U := (if_neg c).mp h1
      have h4 : b + ((if q.1 = [] then 0 else q.1.length + 1) + q.2.length + 1 + u_z U) = z := h4
      have hn : (if q.1 = [] then 0 else q.1.length + 1) + q.2.length + 1 + u_z U < n := hn
      rw [if_neg c] at h4 hn
      have hB := hk.2.2.1.resolve_left c
      have b01 := rv_B01 hB E
      obtain ⟨v1, c1, c2, -⟩ := rv_SP (rv_BS hB) E true (fun _ => 0) 0
      obtain ⟨mu2, d1, d2, d3⟩ := sf_seg (x := x) hp hu hu1 hz2 q.1 b 0 1 (fun _ => 0) v1 mu h1.1 hk.1 h3 (by omega) (Nat.zero_le _) h5 c1 (fun j hj => absurd hj (Nat.not_lt_zero j))
      obtain ⟨r, hr⟩ : ∃ r, n = q.1.length + (r + 1) := ⟨n - q.1.length - 1, by omega⟩
      have e3 : bs_iv (mu2 u 1) = nI z := by rw [d3 _ hu]; exact h3
      have ej : bs_iv (mu2 (u + 1) (b + q.1.length)) = nI (20000 + (b + q.1.length + 1 + q.2.length + 1)) := by rw [d3 _ hu1]; exact h1.2.1
      have e0 : bs_lv (mu2 p2 0) = rv_v E q.1 := by rw [d2 0 (by decide)]; exact c2
      have n59 : ¬ nI (20000 + (b + q.1.length + 1 + q.2.length + 1)) = -59 := nI_ng (k := 59) (by omega) (by decide) (by decide)
      rcases b01 with w | w
      · have st : FX6_worthBy_b5 x u p1 p2 (nI 1, nI (b + q.1.length), mu2) = some (.inl (nI 0, nI (b + q.1.length + 1 + q.2.length + 1), mu2)) := by
          have z0 : lg_cmp (0 : Int64) 0 = 0 := rfl
          unfold FX6_worthBy_b5
          simp (disch := omega) only [fg_gd_t, fg_bd_s, fg_b2_s, fg_wr_s, fg_let_s, fn_add, fn_sub, fn_mul, fn_cl, fn_lt, fn_le, fn_eq, fn_eq0, fn_lt0, fn_0le, fn_0lt, fn_le0, fn_in, fn_shl, fn_shr, fa_and, fa_or, bs_xorI, if_true, if_false, e3, ej, if_neg (show ¬ z ≤ b + q.1.length by omega), if_neg n59, if_neg (show ¬ 20000 + (b + q.1.length + 1 + q.2.length + 1) < 20000 by omega), if_neg (show ¬ (1 : Nat) = 0 by decide), Nat.sub_self, e0, w, z0]
          unfold FX6_worthBy_j71_L5 FX6_worthBy_j72_L5
          simp (disch := omega) only [fg_gd_t, fg_bd_s, fg_b2_s, fg_wr_s, fg_let_s, fn_add, fn_sub, fn_mul, fn_cl, fn_lt, fn_le, fn_eq, fn_eq0, fn_lt0, fn_0le, fn_0lt, fn_le0, fn_in, fn_shl, fn_shr, fa_and, fa_or, bs_xorI, if_true, if_false, nI_0, Nat.add_sub_cancel_left, Nat.add_sub_cancel, if_pos (show b + q.1.length < b + q.1.length + 1 + q.2.length by omega)]
        obtain ⟨mu3, k1, k2⟩ := ih (b + q.1.length + 1 + q.2.length + 1) mu2 (by rw [d3 _ hu1]; exact h1.2.2.2.2) hU e3 (by omega) (fun k hk => by rw [d3 _ hp]; exact h5 k hk) r (by omega)
        refine ⟨mu3, ?_, fun a ha => (k2 a ha).trans (d3 a ha)⟩
        have ev : u_v E (q :: U) = u_v E U := if_neg (fun h => h.elim c fun h => by rw [w] at h; exact absurd h (by decide))
        rw [hr, d1, fg_lp_s st, ev]
        exact k1
      · have st : FX6_worthBy_b5 x u p1 p2 (nI 1, nI (b + q.1.length), mu2) = some (.inl (nI 0, nI (b + q.1.length + 1), mu2)) := by
          have z0 : ¬ lg_cmp (1 : Int64) 0 = 0 := by decide
          unfold FX6_worthBy_b5
          simp (disch := omega) only [fg_gd_t, fg_bd_s, fg_b2_s, fg_wr_s, fg_let_s, fn_add, fn_sub, fn_mul, fn_cl, fn_lt, fn_le, fn_eq, fn_eq0, fn_lt0, fn_0le, fn_0lt, fn_le0, fn_in, fn_shl, fn_shr, fa_and, fa_or, bs_xorI, if_true, if_false, e3, ej, if_neg (show ¬ z ≤ b + q.1.length by omega), if_neg n59, if_neg (show ¬ 20000 + (b + q.1.length + 1 + q.2.length + 1) < 20000 by omega), if_neg (show ¬ (1 : Nat) = 0 by decide), Nat.sub_self, e0, w, if_neg z0]
          unfold FX6_worthBy_j72_L5
          simp (disch := omega) only [fg_gd_t, fg_bd_s, fg_b2_s, fg_wr_s, fg_let_s, fn_add, fn_sub, fn_mul, fn_cl, fn_lt, fn_le, fn_eq, fn_eq0, fn_lt0, fn_0le, fn_0lt, fn_le0, fn_in, fn_shl, fn_shr, fa_and, fa_or, bs_xorI, if_true, if_false, if_neg (show ¬ (1 : Nat) = 0 by decide)]
        obtain ⟨mu3, k1, k2⟩ := fin (b + q.1.length + 1) mu2 r d3 h1.2.2.1 h1.2.2.2.1 (by omega) (by omega)
        refine ⟨mu3, Or.inl ?_, k2⟩
        rw [hr, d1, fg_lp_s st, k1, u_v, if_pos (Or.inr w)]
theorem sf_worthBy {x u p1 p2 : Nat} {E : Nat → Int32} {U : bs_U} {mu : bs_Mm} (hp : p1 ≠ p2) (hu : u ≠ p2) (hu1 : u + 1 ≠ p2) (hU : cUv u U mu) (hk : ∀ q, q ∈ U → u_k q) (hE : ∀ k, k < 5 → bs_iv (mu p1 k) = E k) : ∃ mu', FX6_worthBy x u mu p1 p2 = some (u_v E U, mu') ∧ ∀ a, a ≠ p2 → mu' a = mu a := by
  obtain ⟨h1, h2, h3⟩ := hU
  obtain ⟨mu', k1, k2⟩ := sf_clz (x := x) hp hu hu1 h3 U 0 mu h2 hk h1 (Nat.zero_add _) hE fg_fu (fg_fu_lt (by omega))
  refine ⟨mu', ?_, k2⟩
  unfold FX6_worthBy
  rcases k1 with k1 | ⟨k1, e⟩
  · rw [k1, fg_l3_r]
  · rw [k1, fg_l3_l, e]
