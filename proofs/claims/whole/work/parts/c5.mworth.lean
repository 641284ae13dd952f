/-! RULES of the model (own): what worthOf answers -/
def u_ch (i : Nat) : Nat := if i = 10000 then 108 else if i = 10001 then 104 else if i = 10002 then 107 else if i = 10003 then 115 else 97
def u_l : List Nat → Nat
  | [] => 0
  | i :: c => (if i < 20000 then 2 else 1) + u_l c
def u_t (cd : Nat → Int32) : Nat → List Nat → Prop
  | _, [] => True
  | b, i :: c => if i < 20000 then cd b = (if i < 10000 then nI 0 else nI 1) ∧ cd (b + 1) = (if i < 10000 then nI i else nI (u_ch i)) ∧ u_t cd (b + 2) c else cd b = nI (i - 30000) ∧ u_t cd (b + 1) c
def u_q (cd tt ss : Nat → Int32) : Nat → Nat → bs_U → Prop
  | _, _, [] => True
  | k, b, q :: U => u_t cd b q.1 ∧ tt k = nI (b + u_l q.1) ∧ u_t cd (b + u_l q.1) q.2 ∧ ss k = nI (b + u_l q.1 + u_l q.2) ∧ u_q cd tt ss (k + 1) (b + u_l q.1 + u_l q.2) U
def u_y : bs_U → Nat
  | [] => 0
  | q :: U => u_l q.1 + u_l q.2 + u_y U
/-- a rule of the model -/
def mUv (m r : Nat) (U : bs_U) (mu : bs_Mm) : Prop := bs_iv (mu (m + 19) r) = nI U.length ∧ u_q (fun j => bs_iv (mu (m + 18) (400 * r + j))) (fun k => bs_iv (mu (m + 20) (64 * r + k))) (fun k => bs_iv (mu (m + 21) (64 * r + k))) 0 0 U ∧ u_y U ≤ 400 ∧ U.length ≤ 64
theorem tf_bo {m c : Nat} {mu : bs_Mm} {a b : Int64} (h : c = 38 ∨ c = 42 ∨ c = 43 ∨ c = 45 ∨ c = 47 ∨ c = 60 ∨ c = 61 ∨ c = 62 ∨ c = 124) : FX12_both m mu (nI c) a b = some (rv_o false c a b) := by
  have w : ∀ v, FX12_within m mu v = some (rv_w v) := fun v => by
    unfold FX12_within rv_w
    rfl
  unfold FX12_both
  rcases h with h | h | h | h | h | h | h | h | h
  · subst h
    have e : rv_o false 38 a b = if lg_cmp (a + b) 2 = 0 then 1 else 0 := by rw [rv_o, if_pos rfl, if_neg (by decide)]
    rw [e, if_pos rfl]
    by_cases z : lg_cmp (a + b) 2 = 0
    · rw [if_pos z, if_pos z]
    · rw [if_neg z, if_neg z]
  · subst h
    rw [if_neg (by decide), if_pos rfl, w, fg_bd_s, rv_o, if_neg (by decide), if_neg (by decide), rv_a, if_pos rfl]
  · subst h
    rw [if_neg (by decide), if_neg (by decide), if_pos rfl, w, fg_bd_s, rv_o, if_neg (by decide), if_neg (by decide), rv_a, if_neg (by decide), if_pos rfl]
  · subst h
    rw [if_neg (by decide), if_neg (by decide), if_neg (by decide), if_pos rfl, w, fg_bd_s, rv_o, if_neg (by decide), if_neg (by decide), rv_a, if_neg (by decide), if_neg (by decide), if_pos rfl]
  · subst h
    have e : rv_o false 47 a b = if lg_cmp b 0 = 0 then 0 else rv_w (a / b) := by rw [rv_o, if_neg (by decide), if_neg (by decide), rv_a, if_neg (by decide), if_neg (by decide), if_neg (by decide), if_pos rfl]
    rw [e, if_neg (by decide), if_neg (by decide), if_neg (by decide), if_neg (by decide), if_pos rfl]
    by_cases z : lg_cmp b 0 = 0
    · rw [if_pos z, if_pos z]
    · have hb : ¬ b = 0 := fun e => z (by rw [e]; rfl)
      rw [if_neg z, if_neg z, fg_dt hb, fg_gd_t, w, fg_bd_s]
  · subst h
    have e : rv_o false 60 a b = if 0 ≤ lg_cmp a b then 0 else 1 := by rw [rv_o, if_neg (by decide), if_neg (by decide), rv_a, if_neg (by decide), if_neg (by decide), if_neg (by decide), if_neg (by decide), if_pos rfl]
    rw [e, if_neg (by decide), if_neg (by decide), if_neg (by decide), if_neg (by decide), if_neg (by decide), if_pos rfl]
    by_cases z : 0 ≤ lg_cmp a b
    · rw [if_pos z, if_pos z]
    · rw [if_neg z, if_neg z]
  · subst h
    have e : rv_o false 61 a b = if lg_cmp a b = 0 then 1 else 0 := by rw [rv_o, if_neg (by decide), if_neg (by decide), rv_a, if_neg (by decide), if_neg (by decide), if_neg (by decide), if_neg (by decide), if_neg (by decide), if_pos rfl]
    rw [e, if_neg (by decide), if_neg (by decide), if_neg (by decide), if_neg (by decide), if_neg (by decide), if_neg (by decide), if_pos rfl]
    by_cases z : lg_cmp a b = 0
    · rw [if_pos z, if_pos z]
    · rw [if_neg z, if_neg z]
  · subst h
    have e : rv_o false 62 a b = if lg_cmp a b ≤ 0 then 0 else 1 := by rw [rv_o, if_neg (by decide), if_neg (by decide), rv_a, if_neg (by decide), if_neg (by decide), if_neg (by decide), if_neg (by decide), if_neg (by decide), if_neg (by decide)]
    rw [e, if_neg (by decide), if_neg (by decide), if_neg (by decide), if_neg (by decide), if_neg (by decide), if_neg (by decide), if_neg (by decide), if_pos rfl]
    by_cases z : lg_cmp a b ≤ 0
    · rw [if_pos z, if_pos z]
    · rw [if_neg z, if_neg z]
  · subst h
    have e : rv_o false 124 a b = if lg_cmp (a + b) 0 ≤ 0 then 0 else 1 := by rw [rv_o, if_neg (by decide), if_pos rfl, if_neg (by decide)]
    rw [e, if_neg (by decide), if_neg (by decide), if_neg (by decide), if_neg (by decide), if_neg (by decide), if_neg (by decide), if_neg (by decide), if_neg (by decide)]
    by_cases z : lg_cmp (a + b) 0 ≤ 0
    · rw [if_pos z, if_pos z]
    · rw [if_neg z, if_neg z]
set_option maxHeartbeats 1000000 in
/-- one step -/
theorem tf_w1a {m r e i b t : Nat} {mu : bs_Mm} {E : Nat → Int32} {l2 : Int32} {v v1 : Nat → Int64} {t1 : Nat} (hr : r < 7) (c : i < 20000) (hi : rv_ok i) (hst : u_t (fun j => bs_iv (mu (m + 18) (400 * r + j))) b [i]) (hb : b + u_l [i] ≤ e) (he : e ≤ 400) (ht : t ≤ b) (hx : rv_1 false E i v t = some (v1, t1)) (hR : ∀ j, j < t → bs_lv (mu (m + 22) j) = v j) : ∃ mu', FX12_work_b12 m (nI r) l2 (nI e) (E 0) (E 1) (E 2) (E 3) (E 4) (nI t, nI (400 * r + b), mu) = some (.inl (nI t1, nI (400 * r + (b + u_l [i])), mu')) ∧ (∀ j, j < t1 → bs_lv (mu' (m + 22) j) = v1 j) ∧ t1 ≤ b + u_l [i] ∧ ∀ a, a ≠ m + 22 → mu' a = mu a := by
  have hi : i < 10005 := by
    rcases hi with h | h | h | h | h | h | h | h | h | h | h <;> omega
  have ul : u_l [i] = 2 := by
    show (if i < 20000 then 2 else 1) + 0 = 2
    rw [if_pos c]
  rw [ul] at hb ⊢
  have hst : bs_iv (mu (m + 18) (400 * r + b)) = (if i < 10000 then nI 0 else nI 1) ∧ bs_iv (mu (m + 18) (400 * r + (b + 1))) = (if i < 10000 then nI i else nI (u_ch i)) ∧ True := (if_pos c).mp hst
  rw [← Nat.add_assoc] at hst
  have an : 400 * r + b + 1 + 1 = 400 * r + (b + 2) := by omega
  by_cases d : i < 10000
  · rw [rv_1, if_pos d] at hx
    have hx := Option.some.inj hx
    have h1 : v1 = rv_f v t (nI i).toInt64 := (congrArg (fun s => s.1) hx).symm
    have h2 : t1 = t + 1 := (congrArg (fun s => s.2) hx).symm
    subst h1
    subst h2
    rw [if_pos d, if_pos d] at hst
    refine ⟨bs_up mu (m + 22) t (.long (nI i).toInt64), ?_, rv_R_up hR (fun j hj _ => by omega), by omega, fun a ha => bs_up_f ha⟩
    unfold FX12_work_b12
    simp (disch := omega) only [fg_gd_t, fg_bd_s, fg_b2_s, fg_wr_s, fg_let_s, fn_add, fn_sub, fn_mul, fn_cl, fn_lt, fn_le, fn_eq, fn_eq0, fn_lt0, fn_0le, fn_0lt, fn_le0, fn_in, fn_shl, fn_shr, fa_and, fa_or, bs_xorI, if_true, if_false, if_neg (show ¬ 400 * r + e ≤ 400 * r + b by omega), hst.1, hst.2.1, if_neg (show ¬ 2 ≤ 0 by omega), an]
  · rw [rv_1, if_neg d, if_pos c] at hx
    have hx := Option.some.inj hx
    have h1 : v1 = rv_f v t (E (i - 10000)).toInt64 := (congrArg (fun s => s.1) hx).symm
    have h2 : t1 = t + 1 := (congrArg (fun s => s.2) hx).symm
    subst h1
    subst h2
    rw [if_neg d, if_neg d] at hst
    refine ⟨bs_up mu (m + 22) t (.long (E (i - 10000)).toInt64), ?_, rv_R_up hR (fun j hj _ => by omega), by omega, fun a ha => bs_up_f ha⟩
    unfold FX12_work_b12
    simp (disch := omega) only [fg_gd_t, fg_bd_s, fg_b2_s, fg_wr_s, fg_let_s, fn_add, fn_sub, fn_mul, fn_cl, fn_lt, fn_le, fn_eq, fn_eq0, fn_lt0, fn_0le, fn_0lt, fn_le0, fn_in, fn_shl, fn_shr, fa_and, fa_or, bs_xorI, if_true, if_false, if_neg (show ¬ 400 * r + e ≤ 400 * r + b by omega), hst.1, hst.2.1, if_neg (show ¬ 2 ≤ 1 by omega), if_neg (show ¬ (1 : Nat) = 0 by decide), an]
    have hj : i = 10000 ∨ i = 10001 ∨ i = 10002 ∨ i = 10003 ∨ i = 10004 := by omega
    rcases hj with h | h | h | h | h
    · subst h
      have e : u_ch 10000 = 108 := by rw [u_ch, if_pos rfl]
      rw [e, show 10000 - 10000 = 0 from rfl, if_pos rfl]
    · subst h
      have e : u_ch 10001 = 104 := by rw [u_ch, if_neg (by decide), if_pos rfl]
      rw [e, show 10001 - 10000 = 1 from rfl, if_neg (by decide), if_pos rfl]
    · subst h
      have e : u_ch 10002 = 107 := by rw [u_ch, if_neg (by decide), if_neg (by decide), if_pos rfl]
      rw [e, show 10002 - 10000 = 2 from rfl, if_neg (by decide), if_neg (by decide), if_pos rfl]
    · subst h
      have e : u_ch 10003 = 115 := by rw [u_ch, if_neg (by decide), if_neg (by decide), if_neg (by decide), if_pos rfl]
      rw [e, show 10003 - 10000 = 3 from rfl, if_neg (by decide), if_neg (by decide), if_neg (by decide), if_pos rfl]
    · subst h
      have e : u_ch 10004 = 97 := by rw [u_ch, if_neg (by decide), if_neg (by decide), if_neg (by decide), if_neg (by decide)]
      rw [e, show 10004 - 10000 = 4 from rfl, if_neg (by decide), if_neg (by decide), if_neg (by decide), if_neg (by decide)]
theorem tf_w1b {m r e i b t : Nat} {mu : bs_Mm} {E : Nat → Int32} {l2 : Int32} {v v1 : Nat → Int64} {t1 : Nat} (hr : r < 7) (c : ¬ i < 20000) (hi : rv_ok i) (hst : u_t (fun j => bs_iv (mu (m + 18) (400 * r + j))) b [i]) (hb : b + u_l [i] ≤ e) (he : e ≤ 400) (ht : t ≤ b) (hx : rv_1 false E i v t = some (v1, t1)) (hR : ∀ j, j < t → bs_lv (mu (m + 22) j) = v j) : ∃ mu', FX12_work_b12 m (nI r) l2 (nI e) (E 0) (E 1) (E 2) (E 3) (E 4) (nI t, nI (400 * r + b), mu) = some (.inl (nI t1, nI (400 * r + (b + u_l [i])), mu')) ∧ (∀ j, j < t1 → bs_lv (mu' (m + 22) j) = v1 j) ∧ t1 ≤ b + u_l [i] ∧ ∀ a, a ≠ m + 22 → mu' a = mu a := by
  obtain ⟨k, hk⟩ : ∃ k, i = 30000 + k := ⟨i - 30000, by rcases hi with h | h | h | h | h | h | h | h | h | h | h <;> omega⟩
  subst hk
  have hk : k = 33 ∨ k = 38 ∨ k = 42 ∨ k = 43 ∨ k = 45 ∨ k = 47 ∨ k = 60 ∨ k = 61 ∨ k = 62 ∨ k = 124 := by
    rcases hi with h | h | h | h | h | h | h | h | h | h | h <;> omega
  have ul : u_l [30000 + k] = 1 := by
    show (if 30000 + k < 20000 then 2 else 1) + 0 = 1
    rw [if_neg c]
  rw [ul] at hb ⊢
  have hst : bs_iv (mu (m + 18) (400 * r + b)) = nI (30000 + k - 30000) ∧ True := (if_neg c).mp hst
  rw [Nat.add_sub_cancel_left] at hst
  rw [rv_1, if_neg (by omega), if_neg (by omega)] at hx
  have neg1 : nI t + (-1) = nI t - nI 1 := (Int32.sub_eq_add_neg (nI t) (nI 1)).symm
  by_cases e33 : k = 33
  · subst e33
    rw [if_pos rfl] at hx
    by_cases z : t = 0
    · rw [if_pos z] at hx
      cases hx
    · rw [if_neg z] at hx
      have hx := Option.some.inj hx
      have h1 : v1 = rv_f v (t - 1) (rv_n false (v (t - 1))) := (congrArg (fun s => s.1) hx).symm
      have h2 : t = t1 := congrArg (fun s => s.2) hx
      subst h1
      subst h2
      have q := hR (t - 1) (by omega)
      refine ⟨bs_up mu (m + 22) (t - 1) (.long (rv_n false (v (t - 1)))), ?_, rv_R_up hR (fun j hj _ => hj), by omega, fun a ha => bs_up_f ha⟩
      have en : rv_n false (v (t - 1)) = 1 - v (t - 1) := if_neg (by decide)
      rw [en]
      unfold FX12_work_b12
      simp (disch := omega) only [fg_gd_t, fg_bd_s, fg_b2_s, fg_wr_s, fg_let_s, fn_add, fn_sub, fn_mul, fn_cl, fn_lt, fn_le, fn_eq, fn_eq0, fn_lt0, fn_0le, fn_0lt, fn_le0, fn_in, fn_shl, fn_shr, fa_and, fa_or, bs_xorI, if_true, if_false, if_neg (show ¬ 400 * r + e ≤ 400 * r + b by omega), hst.1, if_pos (show 2 ≤ 33 by decide), q, Nat.add_assoc]
  · rw [if_neg (by omega)] at hx
    by_cases z : t < 2
    · rw [if_pos z] at hx
      cases hx
    · rw [if_neg z, Nat.add_sub_cancel_left] at hx
      have hx := Option.some.inj hx
      have h1 : v1 = rv_f v (t - 2) (rv_o false k (v (t - 2)) (v (t - 1))) := (congrArg (fun s => s.1) hx).symm
      have h2 : t1 = t - 1 := (congrArg (fun s => s.2) hx).symm
      subst h1
      subst h2
      have r1 := hR (t - 1) (by omega)
      have r2 := hR (t - 2) (by omega)
      have jd := tf_bo (m := m) (mu := mu) (a := v (t - 2)) (b := v (t - 1)) (show k = 38 ∨ k = 42 ∨ k = 43 ∨ k = 45 ∨ k = 47 ∨ k = 60 ∨ k = 61 ∨ k = 62 ∨ k = 124 by omega)
      have t2 : t - 1 - 1 = t - 2 := by omega
      refine ⟨bs_up mu (m + 22) (t - 2) (.long (rv_o false k (v (t - 2)) (v (t - 1)))), ?_, rv_R_up hR (fun j hj _ => by omega), by omega, fun a ha => bs_up_f ha⟩
      unfold FX12_work_b12
      simp (disch := omega) only [fg_gd_t, fg_bd_s, fg_b2_s, fg_wr_s, fg_let_s, fn_add, fn_sub, fn_mul, fn_cl, fn_lt, fn_le, fn_eq, fn_eq0, fn_lt0, fn_0le, fn_0lt, fn_le0, fn_in, fn_shl, fn_shr, fa_and, fa_or, bs_xorI, if_true, if_false, if_neg (show ¬ 400 * r + e ≤ 400 * r + b by omega), hst.1, if_pos (show 2 ≤ k by omega), if_neg e33, neg1, t2, r1, r2, jd, Nat.add_assoc]
set_option maxHeartbeats 1000000 in
theorem tf_w1 {m r e i b t : Nat} {mu : bs_Mm} {E : Nat → Int32} {l2 : Int32} {v v1 : Nat → Int64} {t1 : Nat} (hr : r < 7) (hi : rv_ok i) (hst : u_t (fun j => bs_iv (mu (m + 18) (400 * r + j))) b [i]) (hb : b + u_l [i] ≤ e) (he : e ≤ 400) (ht : t ≤ b) (hx : rv_1 false E i v t = some (v1, t1)) (hR : ∀ j, j < t → bs_lv (mu (m + 22) j) = v j) : ∃ mu', FX12_work_b12 m (nI r) l2 (nI e) (E 0) (E 1) (E 2) (E 3) (E 4) (nI t, nI (400 * r + b), mu) = some (.inl (nI t1, nI (400 * r + (b + u_l [i])), mu')) ∧ (∀ j, j < t1 → bs_lv (mu' (m + 22) j) = v1 j) ∧ t1 ≤ b + u_l [i] ∧ ∀ a, a ≠ m + 22 → mu' a = mu a := by
  by_cases c : i < 20000
  · exact tf_w1a hr c hi hst hb he ht hx hR
  · exact tf_w1b hr c hi hst hb he ht hx hR
theorem tf_seg {m r e : Nat} {E : Nat → Int32} {l2 : Int32} (hr : r < 7) (he : e ≤ 400) : ∀ (c : List Nat) (b t t1 : Nat) (v v1 : Nat → Int64) (mu : bs_Mm), u_t (fun j => bs_iv (mu (m + 18) (400 * r + j))) b c → rv_ko c → b + u_l c ≤ e → t ≤ b → rv_x false E c v t = some (v1, t1) → (∀ j, j < t → bs_lv (mu (m + 22) j) = v j) → ∃ mu', (∀ n, fg_lp (FX12_work_b12 m (nI r) l2 (nI e) (E 0) (E 1) (E 2) (E 3) (E 4)) (c.length + n) (nI t, nI (400 * r + b), mu) = fg_lp (FX12_work_b12 m (nI r) l2 (nI e) (E 0) (E 1) (E 2) (E 3) (E 4)) n (nI t1, nI (400 * r + (b + u_l c)), mu')) ∧ (∀ j, j < t1 → bs_lv (mu' (m + 22) j) = v1 j) ∧ ∀ a, a ≠ m + 22 → mu' a = mu a := by
  intro c
  induction c with
  | nil =>
    intro b t t1 v v1 mu h1 h2 h3 h4 h5 h6
    have hx := Option.some.inj h5
    have e1 : v1 = v := (congrArg (fun s => s.1) hx).symm
    have e2 : t1 = t := (congrArg (fun s => s.2) hx).symm
    subst e1
    subst e2
    exact ⟨mu, fun n => by rw [List.length_nil, Nat.zero_add]; rfl, h6, fun _ _ => rfl⟩
  | cons i c ih =>
    intro b t t1 v v1 mu h1 h2 h3 h4 h5 h6
    have ul : u_l (i :: c) = u_l [i] + u_l c := by
      show (if i < 20000 then 2 else 1) + u_l c = (if i < 20000 then 2 else 1) + 0 + u_l c
      rw [Nat.add_zero]
    rw [ul] at h3
    have hh : u_t (fun j => bs_iv (mu (m + 18) (400 * r + j))) b [i] ∧ u_t (fun j => bs_iv (mu (m + 18) (400 * r + j))) (b + u_l [i]) c := by
      by_cases d : i < 20000
      · have h1 := (if_pos d).mp h1
        have e2 : u_l [i] = 2 := by
          show (if i < 20000 then 2 else 1) + 0 = 2
          rw [if_pos d]
        rw [e2]
        exact ⟨(if_pos d).mpr ⟨h1.1, h1.2.1, trivial⟩, h1.2.2⟩
      · have h1 := (if_neg d).mp h1
        have e2 : u_l [i] = 1 := by
          show (if i < 20000 then 2 else 1) + 0 = 1
          rw [if_neg d]
        rw [e2]
        exact ⟨(if_neg d).mpr ⟨h1.1, trivial⟩, h1.2⟩
    have h5 : (rv_1 false E i v t).bind (fun s => rv_x false E c s.1 s.2) = some (v1, t1) := h5
    cases hs : rv_1 false E i v t with
    | none => rw [hs] at h5; cases h5
    | some s =>
      rw [hs] at h5
      have h5 : rv_x false E c s.1 s.2 = some (v1, t1) := h5
      obtain ⟨mu1, a1, a2, a3, a4⟩ := tf_w1 (l2 := l2) (v1 := s.1) (t1 := s.2) hr (h2 i (List.mem_cons_self ..)) hh.1 (by omega) he h4 hs h6
      obtain ⟨mu2, b1, b2, b3⟩ := ih (b + u_l [i]) s.2 t1 s.1 v1 mu1 (by rw [a4 _ (by omega)]; exact hh.2) (fun k hk => h2 k (List.mem_cons_of_mem _ hk)) (by omega) a3 h5 a2
      refine ⟨mu2, fun n => ?_, b2, fun a ha => (b3 a ha).trans (a4 a ha)⟩
      rw [List.length_cons, show c.length + 1 + n = (c.length + n) + 1 by omega, fg_lp_s a1, b1 n, ul, Nat.add_assoc b]
theorem u_l_len : ∀ c : List Nat, c.length ≤ u_l c := by
  intro c
  induction c with
  | nil => exact Nat.le_refl _
  | cons i c ih =>
    rw [List.length_cons, u_l]
    split <;> omega
theorem tf_work {m r b : Nat} {mu : bs_Mm} {E : Nat → Int32} {c : List Nat} {val : Int64} (hr : r < 7) (hst : u_t (fun j => bs_iv (mu (m + 18) (400 * r + j))) b c) (hk : rv_ko c) (hb : b + u_l c ≤ 400) (hP : rv_P E c val) : ∃ mu', FX12_work m mu (nI r) (nI b) (nI (b + u_l c)) (E 0) (E 1) (E 2) (E 3) (E 4) = some (val, mu') ∧ ∀ a, a ≠ m + 22 → mu' a = mu a := by
  obtain ⟨v1, c1, c2, -⟩ := hP false (fun _ => 0) 0
  obtain ⟨mu1, d1, d2, d3⟩ := tf_seg (E := E) (l2 := nI b) hr hb c b 0 1 (fun _ => 0) v1 mu hst hk (Nat.le_refl _) (Nat.zero_le _) c1 (fun j hj => absurd hj (Nat.not_lt_zero j))
  have ll := u_l_len c
  refine ⟨mu1, ?_, d3⟩
  have lp : fg_lp (FX12_work_b12 m (nI r) (nI b) (nI (b + u_l c)) (E 0) (E 1) (E 2) (E 3) (E 4)) fg_fu (nI 0, nI (400 * r + b), mu) = some mu1 := by
    have := d1 (fg_fu - c.length)
    have ff : fg_fu = 2000000 := rfl
    rw [show c.length + (fg_fu - c.length) = fg_fu by omega] at this
    rw [this, show fg_fu - c.length = (fg_fu - c.length - 1) + 1 by omega]
    refine fg_lp_e ?_
    unfold FX12_work_b12
    simp (disch := omega) only [fg_gd_t, fg_bd_s, fg_b2_s, fg_wr_s, fg_let_s, fn_add, fn_sub, fn_mul, fn_cl, fn_lt, fn_le, fn_eq, fn_eq0, fn_lt0, fn_0le, fn_0lt, fn_le0, fn_in, fn_shl, fn_shr, fa_and, fa_or, bs_xorI, if_true, if_false, Nat.le_refl]
  unfold FX12_work
  rw [fn_mul, fn_add, lp, fg_bd_s, fn_in (show 0 < 400 by decide) (by decide), fg_gd_t, fn_cl (by decide), d2 0 (by decide), c2]
set_option maxHeartbeats 1000000 in
theorem tf_clz {m r : Nat} {E : Nat → Int32} {z : Nat} (hr : r < 7) (hz : z ≤ 64) : ∀ (U : bs_U) (k b : Nat) (mu : bs_Mm), u_q (fun j => bs_iv (mu (m + 18) (400 * r + j))) (fun k => bs_iv (mu (m + 20) (64 * r + k))) (fun k => bs_iv (mu (m + 21) (64 * r + k))) k b U → (∀ q, q ∈ U → u_k q) → bs_iv (mu (m + 19) r) = nI z → k + U.length = z → b + u_y U ≤ 400 → ∀ n, U.length < n → ∃ mu', (fg_lp (FX12_worthOf_b6 m (nI r) (E 0) (E 1) (E 2) (E 3) (E 4)) n (nI b, nI k, mu) = some (.inr (u_v E U, mu')) ∨ (fg_lp (FX12_worthOf_b6 m (nI r) (E 0) (E 1) (E 2) (E 3) (E 4)) n (nI b, nI k, mu) = some (.inl mu') ∧ u_v E U = nI 0)) ∧ ∀ a, a ≠ m + 22 → mu' a = mu a := by
  intro U
  induction U with
  | nil =>
    intro k b mu h1 h2 h3 h4 h5 n hn
    rw [List.length_nil] at h4
    match n, hn with
    | n + 1, _ =>
      refine ⟨mu, Or.inr ⟨fg_lp_e ?_, rfl⟩, fun _ _ => rfl⟩
      unfold FX12_worthOf_b6
      simp (disch := omega) only [fg_gd_t, fg_bd_s, fg_b2_s, fg_wr_s, fg_let_s, fn_add, fn_sub, fn_mul, fn_cl, fn_lt, fn_le, fn_eq, fn_eq0, fn_lt0, fn_0le, fn_0lt, fn_le0, fn_in, fn_shl, fn_shr, fa_and, fa_or, bs_xorI, if_true, if_false, h3, if_pos (show z ≤ k by omega)]
  | cons q U ih =>
    intro k b mu h1 h2 h3 h4 h5 n hn
    rw [List.length_cons] at h4 hn
    obtain ⟨g1, g2, g3, g4, g5⟩ := h1
    have hk := h2 q (List.mem_cons_self ..)
    have hU : ∀ r, r ∈ U → u_k r := fun r hr => h2 r (List.mem_cons_of_mem _ hr)
    have h5 : b + (u_l q.1 + u_l q.2 + u_y U) ≤ 400 := h5
    have g2 : bs_iv (mu (m + 20) (64 * r + k)) = nI (b + u_l q.1) := g2
    have g4 : bs_iv (mu (m + 21) (64 * r + k)) = nI (b + u_l q.1 + u_l q.2) := g4
    have fin : ∀ mu1 : bs_Mm, (∀ a, a ≠ m + 22 → mu1 a = mu a) → ∃ mu', FX12_worthOf_j74_L6 m mu1 (nI r) (E 0) (E 1) (E 2) (E 3) (E 4) (nI (b + u_l q.1)) (nI (b + u_l q.1 + u_l q.2)) = some (.inr (.inr ((rv_v E q.2).toInt32, mu'))) ∧ ∀ a, a ≠ m + 22 → mu' a = mu a := by
      intro mu1 hf
      obtain ⟨mu2, w1, w2⟩ := tf_work (m := m) (mu := mu1) (E := E) hr (by rw [hf _ (by omega)]; exact g3) hk.2.1 (by omega) (rv_SP hk.2.2.2 E)
      refine ⟨mu2, ?_, fun a ha => (w2 a ha).trans (hf a ha)⟩
      unfold FX12_worthOf_j74_L6
      rw [w1, fg_b2_s]
    match n, hn with
    | n + 1, hn =>
      have ll := u_l_len q.1
      by_cases c : q.1 = []
      · obtain ⟨mu2, w1, w2⟩ := fin mu fun _ _ => rfl
        have e0 : u_l q.1 = 0 := by rw [c]; rfl
        rw [e0, Nat.add_zero b] at g2 g4 w1
        refine ⟨mu2, Or.inl ?_, w2⟩
        rw [u_v, if_pos (Or.inl c)]
        refine fg_lp_e ?_
        unfold FX12_worthOf_b6
        simp (disch := omega) only [fg_gd_t, fg_bd_s, fg_b2_s, fg_wr_s, fg_let_s, fn_add, fn_sub, fn_mul, fn_cl, fn_lt, fn_le, fn_eq, fn_eq0, fn_lt0, fn_0le, fn_0lt, fn_le0, fn_in, fn_shl, fn_shr, fa_and, fa_or, bs_xorI, if_true, if_false, h3, if_neg (show ¬ z ≤ k by omega), g2, g4, w1]
      · have l1 : 0 < q.1.length := List.length_pos_iff.mpr c
        have hB := hk.2.2.1.resolve_left c
        have b01 := rv_B01 hB E
        obtain ⟨mu2, w1, w2⟩ := tf_work (m := m) (mu := mu) (E := E) hr g1 hk.1 (by omega) (rv_SP (rv_BS hB) E)
        rcases b01 with w | w
        · have st : FX12_worthOf_b6 m (nI r) (E 0) (E 1) (E 2) (E 3) (E 4) (nI b, nI k, mu) = some (.inl (nI (b + u_l q.1 + u_l q.2), nI (k + 1), mu2)) := by
            have z0 : ¬ lg_cmp (0 : Int64) 1 = 0 := by decide
            rw [w] at w1
            unfold FX12_worthOf_b6
            simp (disch := omega) only [fg_gd_t, fg_bd_s, fg_b2_s, fg_wr_s, fg_let_s, fn_add, fn_sub, fn_mul, fn_cl, fn_lt, fn_le, fn_eq, fn_eq0, fn_lt0, fn_0le, fn_0lt, fn_le0, fn_in, fn_shl, fn_shr, fa_and, fa_or, bs_xorI, if_true, if_false, h3, if_neg (show ¬ z ≤ k by omega), g2, g4, if_neg (show ¬ b + u_l q.1 = b by omega), w1, if_neg z0]
          obtain ⟨mu3, k1, k2⟩ := ih (k + 1) (b + u_l q.1 + u_l q.2) mu2 (by rw [w2 _ (by omega), w2 _ (by omega), w2 _ (by omega)]; exact g5) hU (by rw [w2 _ (by omega)]; exact h3) (by omega) (by omega) n (by omega)
          refine ⟨mu3, ?_, fun a ha => (k2 a ha).trans (w2 a ha)⟩
          have ev : u_v E (q :: U) = u_v E U := if_neg (fun h => h.elim c fun h => by rw [w] at h; exact absurd h (by decide))
          rw [fg_lp_s st, ev]
          exact k1
        · obtain ⟨mu3, y1, y2⟩ := fin mu2 w2
          refine ⟨mu3, Or.inl ?_, y2⟩
          rw [u_v, if_pos (Or.inr w)]
          refine fg_lp_e ?_
          have z0 : lg_cmp (1 : Int64) 1 = 0 := by decide
          rw [w] at w1
          unfold FX12_worthOf_b6
          simp (disch := omega) only [fg_gd_t, fg_bd_s, fg_b2_s, fg_wr_s, fg_let_s, fn_add, fn_sub, fn_mul, fn_cl, fn_lt, fn_le, fn_eq, fn_eq0, fn_lt0, fn_0le, fn_0lt, fn_le0, fn_in, fn_shl, fn_shr, fa_and, fa_or, bs_xorI, if_true, if_false, h3, if_neg (show ¬ z ≤ k by omega), g2, g4, if_neg (show ¬ b + u_l q.1 = b by omega), w1, z0, y1]
theorem tf_worthOf {m r : Nat} {E : Nat → Int32} {U : bs_U} {mu : bs_Mm} (hr : r < 7) (hU : mUv m r U mu) (hk : ∀ q, q ∈ U → u_k q) : ∃ mu', FX12_worthOf m mu (nI r) (E 0) (E 1) (E 2) (E 3) (E 4) = some (u_v E U, mu') ∧ ∀ a, a ≠ m + 22 → mu' a = mu a := by
  obtain ⟨h1, h2, h3, h4⟩ := hU
  obtain ⟨mu', k1, k2⟩ := tf_clz (m := m) (E := E) hr h4 U 0 0 mu h2 hk h1 (Nat.zero_add _) (by omega) fg_fu (fg_fu_lt (by omega))
  refine ⟨mu', ?_, k2⟩
  unfold FX12_worthOf
  rcases k1 with k1 | ⟨k1, e⟩
  · rw [k1, fg_l3_r]
  · rw [k1, fg_l3_l, e]
/-- letters -/
def u_e (a0 a1 a2 a3 a4 : Int32) (k : Nat) : Int32 := if k = 0 then a0 else if k = 1 then a1 else if k = 2 then a2 else if k = 3 then a3 else a4
