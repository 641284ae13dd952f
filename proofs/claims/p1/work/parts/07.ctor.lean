/-! CONSTRUCTORS (own): what a constructor lays behind its object -/
def bs_fu (g : Nat → Value) (k : Nat) (v : Value) : Nat → Value := fun j => if j = k then v else g j
def bs_li0 (l : List Value) : Nat → Value := fun k => l.getD k .null
abbrev bs_Ce : Type := (Nat × Nat) × (Nat → Value)
/-- the object at h of kind ob holds g; behind it lie the cells; what lay ahead of it stays -/
def bs_cr1 (h : Nat) (ob : Nat × Nat) (g : Nat → Value) (cells : List bs_Ce) (sh : bs_Sh) (mu : bs_Mm) (sh0 : bs_Sh) (mu0 : bs_Mm) : Prop :=
  sh h = ob ∧ mu h = g ∧ (∀ i q, cells[i]? = some q → sh (h + 1 + i) = q.1 ∧ mu (h + 1 + i) = q.2) ∧ ∀ a, a < h → sh a = sh0 a ∧ mu a = mu0 a
theorem bs_up_a {mu : bs_Mm} {a k b j : Nat} {v : Value} (h : b ≠ a) : bs_up mu a k v b j = mu b j := by simp [bs_up, h]
theorem bs_up_j {mu : bs_Mm} {a k b j : Nat} {v : Value} (h : j ≠ k) : bs_up mu a k v b j = mu b j := by simp [bs_up, h]
theorem bs_up_f {mu : bs_Mm} {a k b : Nat} {v : Value} (h : b ≠ a) : bs_up mu a k v b = mu b := by funext j; simp [bs_up, h]
theorem bs_up_s {mu : bs_Mm} {a k : Nat} {v : Value} : bs_up mu a k v a = bs_fu (mu a) k v := by funext j; simp [bs_up, bs_fu]
theorem bs_nm_f {nx b : Nat} {mu : bs_Mm} (h : b ≠ nx) : bs_nm nx mu b = mu b := by funext j; simp [bs_nm, h]
theorem bs_nm_s {nx : Nat} {mu : bs_Mm} : bs_nm nx mu nx = fun _ => .null := by funext j; simp [bs_nm]
theorem bs_ns_f {nx b k n : Nat} {sh : bs_Sh} (h : b ≠ nx) : bs_ns nx k n sh b = sh b := by simp [bs_ns, h]
theorem bs_ns_s {nx k n : Nat} {sh : bs_Sh} : bs_ns nx k n sh nx = (k, n) := by simp [bs_ns]
section CR1
variable {h : Nat} {ob : Nat × Nat} {g : Nat → Value} {cells : List bs_Ce} {sh sh0 : bs_Sh} {mu mu0 : bs_Mm}
theorem bs_cr1_0 (h1 : sh h = ob) (h2 : mu h = g) : bs_cr1 h ob g [] sh mu sh mu := ⟨h1, h2, fun i q hq => by simp at hq, fun a _ => ⟨rfl, rfl⟩⟩
theorem bs_cr1.put (H : bs_cr1 h ob g cells sh mu sh0 mu0) (k : Nat) (v : Value) : bs_cr1 h ob (bs_fu g k v) cells sh (bs_up mu h k v) sh0 mu0 :=
  ⟨H.1, by rw [bs_up_s, H.2.1], fun i q hq => ⟨(H.2.2.1 i q hq).1, by rw [bs_up_f (by omega)]; exact (H.2.2.1 i q hq).2⟩, fun a ha => ⟨(H.2.2.2 a ha).1, by rw [bs_up_f (by omega)]; exact (H.2.2.2 a ha).2⟩⟩
/-- a new cell behind all, its address put into field k -/
theorem bs_cr1.row (H : bs_cr1 h ob g cells sh mu sh0 mu0) {nx : Nat} (hn : nx = h + 1 + cells.length) (k kk n : Nat) : bs_cr1 h ob (bs_fu g k (.ref nx)) (cells ++ [((kk, n), fun _ => .null)]) (bs_ns nx kk n sh) (bs_up (bs_nm nx mu) h k (.ref nx)) sh0 mu0 := by
  subst hn
  refine ⟨by rw [bs_ns_f (by omega)]; exact H.1, by rw [bs_up_s, bs_nm_f (by omega), H.2.1], fun i q hq => ?_, fun a ha => ⟨by rw [bs_ns_f (by omega)]; exact (H.2.2.2 a ha).1, by rw [bs_up_f (by omega), bs_nm_f (by omega)]; exact (H.2.2.2 a ha).2⟩⟩
  rw [bs_up_f (by omega)]
  by_cases hi : i < cells.length
  · rw [List.getElem?_append_left hi] at hq
    rw [bs_ns_f (by omega), bs_nm_f (by omega)]
    exact H.2.2.1 i q hq
  · have hl : i - cells.length < 1 := by
      rw [List.getElem?_append_right (by omega)] at hq
      exact (List.getElem?_eq_some_iff.mp hq).1
    have : i = cells.length := by omega
    subst this
    rw [List.getElem?_append_right (Nat.le_refl _), Nat.sub_self] at hq
    cases hq
    exact ⟨bs_ns_s, bs_nm_s⟩
/-- a new object behind all, its own constructor's cells behind it, its address put into field k -/
theorem bs_cr1.obj (H : bs_cr1 h ob g cells sh mu sh0 mu0) {nx : Nat} (hn : nx = h + 1 + cells.length) {ob2 : Nat × Nat} {g2 : Nat → Value} {cells2 : List bs_Ce} {sh2 : bs_Sh} {mu2 : bs_Mm} (H2 : bs_cr1 nx ob2 g2 cells2 sh2 mu2 (bs_ns nx ob2.1 ob2.2 sh) (bs_nm nx mu)) : bs_cr1 h ob g (cells ++ (ob2, g2) :: cells2) sh2 mu2 sh0 mu0 := by
  subst hn
  have old : ∀ a, a < h + 1 + cells.length → sh2 a = sh a ∧ mu2 a = mu a := fun a ha => by
    obtain ⟨e1, e2⟩ := H2.2.2.2 a ha
    rw [bs_ns_f (by omega)] at e1
    rw [bs_nm_f (by omega)] at e2
    exact ⟨e1, e2⟩
  refine ⟨(old h (by omega)).1.trans H.1, (old h (by omega)).2.trans H.2.1, fun i q hq => ?_, fun a ha => ⟨(old a (by omega)).1.trans (H.2.2.2 a ha).1, (old a (by omega)).2.trans (H.2.2.2 a ha).2⟩⟩
  by_cases hi : i < cells.length
  · rw [List.getElem?_append_left hi] at hq
    obtain ⟨e1, e2⟩ := old (h + 1 + i) (by omega)
    rw [e1, e2]
    exact H.2.2.1 i q hq
  · rw [List.getElem?_append_right (by omega)] at hq
    obtain ⟨j, hj⟩ : ∃ j, i = cells.length + j := ⟨i - cells.length, by omega⟩
    subst hj
    rw [Nat.add_sub_cancel_left] at hq
    cases j with
    | zero => cases hq; exact ⟨H2.1, H2.2.1⟩
    | succ j =>
      have := H2.2.2.1 j q hq
      rw [show h + 1 + (cells.length + (j + 1)) = h + 1 + cells.length + 1 + j by omega]
      exact this
/-- a place of one of the cells is written -/
theorem bs_cr1.set (H : bs_cr1 h ob g cells sh mu sh0 mu0) {i : Nat} {q : bs_Ce} (hq : cells[i]? = some q) {a : Nat} (ha : a = h + 1 + i) (j : Nat) (v : Value) : bs_cr1 h ob g (cells.set i (q.1, bs_fu q.2 j v)) sh (bs_up mu a j v) sh0 mu0 := by
  subst ha
  refine ⟨H.1, by rw [bs_up_f (by omega)]; exact H.2.1, fun i' q' hq' => ?_, fun a ha => ⟨(H.2.2.2 a ha).1, by rw [bs_up_f (by omega)]; exact (H.2.2.2 a ha).2⟩⟩
  by_cases hi : i' = i
  · subst hi
    rw [List.getElem?_set_self (List.getElem?_eq_some_iff.mp hq).1] at hq'
    cases hq'
    exact ⟨(H.2.2.1 _ q hq).1, by rw [bs_up_s, (H.2.2.1 _ q hq).2]⟩
  · rw [List.getElem?_set_ne (Ne.symm hi)] at hq'
    exact ⟨(H.2.2.1 i' q' hq').1, by rw [bs_up_f (by omega)]; exact (H.2.2.1 i' q' hq').2⟩
theorem bs_cr1.eqg (H : bs_cr1 h ob g cells sh mu sh0 mu0) {g' : Nat → Value} (e : g = g') : bs_cr1 h ob g' cells sh mu sh0 mu0 := e ▸ H
theorem bs_cr1.eqc (H : bs_cr1 h ob g cells sh mu sh0 mu0) {c' : List bs_Ce} (e : cells = c') : bs_cr1 h ob g c' sh mu sh0 mu0 := e ▸ H
end CR1
/-- a row filled up to its n-th place -/
def bs_fi (mu : bs_Mm) (a n : Nat) (v : Value) : bs_Mm := fun b j => if b = a ∧ j < n then v else mu b j
theorem bs_fi_0 (mu : bs_Mm) (a : Nat) (v : Value) : bs_fi mu a 0 v = mu := by funext b j; simp [bs_fi]
theorem bs_fi_s (mu : bs_Mm) (a n : Nat) (v : Value) : bs_up (bs_fi mu a n v) a n v = bs_fi mu a (n + 1) v := by
  funext b j
  simp only [bs_up, bs_fi]
  by_cases h1 : b = a
  · subst h1
    by_cases h2 : j = n
    · subst h2; simp
    · simp only [h2, and_false, if_false, true_and]
      by_cases h3 : j < n
      · simp [h3, show j < n + 1 by omega]
      · simp [h3, show ¬ j < n + 1 by omega]
  · simp [h1]
set_option maxHeartbeats 4000000 in
/-- Arrays.fill -/
theorem s_fill {nx : Nat} {sh : bs_Sh} {mu : bs_Mm} (a n : Nat) (v : Int32) (hs : sh a = (14, n)) (hn : n < 2 ^ 31) : bs_C mJ7_fill_53178 (bs_rm 0 0 0) [.ref a, .int v] nx sh mu (fun r nx' sh' mu' => r = none ∧ nx' = nx ∧ sh' = sh ∧ mu' = bs_fi mu a n (.int v)) := by
  refine bs_ct (by decide +kernel) (Nat.le_of_ble_eq_true rfl) ?_
  refine bs_iconst (v := 0) dJ7_fill_53178_0 (by decide) ?_
  refine bs_istore_n dJ7_fill_53178_1 rfl (by decide) ?_
  refine bs_aload_n dJ7_fill_53178_2 rfl ?_
  refine bs_alen dJ7_fill_53178_3 hs (by omega) ?_
  refine bs_istore_n dJ7_fill_53178_4 rfl (by decide) ?_
  have loop : ∀ k i, i + k = n → bs_W (fun r nx' sh' mu' => r = none ∧ nx' = nx ∧ sh' = sh ∧ mu' = bs_fi mu a n (.int v)) mJ7_fill_53178 (bs_rm 0 0 0) 5 (bs_mk [(0, .ref a), (1, .int v), (2, .int (nI i)), (3, .int (nI n))]) [] 0 0 nx sh (bs_fi mu a i (.int v)) := by
    intro k
    induction k with
    | zero =>
      intro i hi
      refine bs_iload_n dJ7_fill_53178_5 rfl ?_
      refine bs_iload_n dJ7_fill_53178_6 rfl ?_
      refine bs_icmp_ge (tgt := 20) dJ7_fill_53178_7 (by decide) (fun c => ?_) (fun c => ?_)
      · have : i = n := by omega
        subst this
        exact bs_vret dJ7_fill_53178_20 rfl (by decide) (by decide) ⟨rfl, rfl, rfl, rfl⟩
      · exact absurd (nI_le (by omega) (by omega)) c
    | succ k ih =>
      intro i hi
      refine bs_iload_n dJ7_fill_53178_5 rfl ?_
      refine bs_iload_n dJ7_fill_53178_6 rfl ?_
      refine bs_icmp_ge (tgt := 20) dJ7_fill_53178_7 (by decide) (fun c => ?_) (fun c => ?_)
      · exact absurd c (nI_ge (by omega) (by omega))
      · refine bs_aload_n dJ7_fill_53178_10 rfl ?_
        refine bs_iload_n dJ7_fill_53178_11 rfl ?_
        refine bs_iload_n dJ7_fill_53178_12 rfl ?_
        refine bs_iast dJ7_fill_53178_13 hs (bs_ix_n (j := i) (by omega) hn) ?_
        rw [bs_fi_s]
        refine bs_iinc dJ7_fill_53178_14 rfl rfl ?_
        refine bs_goto (tgt := 5) dJ7_fill_53178_17 (by decide) ?_
        refine bs_W.mk [(0, .ref a), (1, .int v), (2, .int (nI (i + 1))), (3, .int (nI n))] ?_ (ih (i + 1) (by omega))
        intro q hq
        simp only [List.mem_cons, List.not_mem_nil, or_false] at hq
        rcases hq with rfl | rfl | rfl | rfl
        · rfl
        · rfl
        · show some (Value.int (nI i + 1)) = _
          rw [nI_1]
        · rfl
  refine bs_W.mk [(0, .ref a), (1, .int v), (2, .int (nI 0)), (3, .int (nI n))] ?_ (bs_W.eqm (bs_fi_0 mu a (.int v)).symm (loop n 0 (by omega)))
  intro q hq
  simp only [List.mem_cons, List.not_mem_nil, or_false] at hq
  rcases hq with rfl | rfl | rfl | rfl <;> rfl


theorem bs_li0_0 (n : Nat) : bs_li0 (List.replicate n .null) = fun _ => .null := by
  funext k
  simp only [bs_li0, List.getD_eq_getElem?_getD]
  by_cases h : k < n
  · simp [List.getElem?_replicate, h]
  · simp [List.getElem?_replicate, h]
theorem bs_li0_set {l : List Value} {k : Nat} {v : Value} (hk : k < l.length) : bs_fu (bs_li0 l) k v = bs_li0 (l.set k v) := by
  funext j
  simp only [bs_fu, bs_li0, List.getD_eq_getElem?_getD]
  by_cases h : j = k
  · subst h; simp [hk]
  · simp [h, List.getElem?_set_ne (Ne.symm h)]
section CR2
variable {h : Nat} {ob : Nat × Nat} {gl : List Value} {cells : List bs_Ce} {sh sh0 : bs_Sh} {mu mu0 : bs_Mm}
theorem bs_cr1.putl (H : bs_cr1 h ob (bs_li0 gl) cells sh mu sh0 mu0) (k : Nat) (v : Value) (hk : k < gl.length) : bs_cr1 h ob (bs_li0 (gl.set k v)) cells sh (bs_up mu h k v) sh0 mu0 := (H.put k v).eqg (bs_li0_set hk)
theorem bs_cr1.rowl (H : bs_cr1 h ob (bs_li0 gl) cells sh mu sh0 mu0) {nx : Nat} (hn : nx = h + 1 + cells.length) (k kk n : Nat) (hk : k < gl.length) : bs_cr1 h ob (bs_li0 (gl.set k (.ref nx))) (cells ++ [((kk, n), fun _ => .null)]) (bs_ns nx kk n sh) (bs_up (bs_nm nx mu) h k (.ref nx)) sh0 mu0 := (H.row hn k kk n).eqg (bs_li0_set hk)
end CR2


theorem bs_cr1.fill {h : Nat} {ob : Nat × Nat} {g : Nat → Value} {cells : List bs_Ce} {sh sh0 : bs_Sh} {mu mu0 : bs_Mm} (H : bs_cr1 h ob g cells sh mu sh0 mu0) (i : Nat) {q : bs_Ce} (hq : cells[i]? = some q) {a : Nat} (ha : a = h + 1 + i) (n : Nat) (v : Value) : bs_cr1 h ob g (cells.set i (q.1, fun j => if j < n then v else q.2 j)) sh (bs_fi mu a n v) sh0 mu0 := by
  subst ha
  have ne : ∀ b, b ≠ h + 1 + i → bs_fi mu (h + 1 + i) n v b = mu b := fun b hb => by funext j; simp [bs_fi, hb]
  refine ⟨H.1, by rw [ne h (by omega)]; exact H.2.1, fun i' q' hq' => ?_, fun a ha => ⟨(H.2.2.2 a ha).1, by rw [ne a (by omega)]; exact (H.2.2.2 a ha).2⟩⟩
  by_cases hi : i' = i
  · subst hi
    rw [List.getElem?_set_self (List.getElem?_eq_some_iff.mp hq).1] at hq'
    cases hq'
    refine ⟨(H.2.2.1 _ q hq).1, funext fun j => ?_⟩
    rw [← (H.2.2.1 _ q hq).2]
    simp [bs_fi]
  · rw [List.getElem?_set_ne (Ne.symm hi)] at hq'
    exact ⟨(H.2.2.1 i' q' hq').1, by rw [ne _ (by omega)]; exact (H.2.2.1 i' q' hq').2⟩

set_option maxHeartbeats 4000000 in
set_option maxRecDepth 100000 in
theorem s_X8_init {h nx : Nat} {sh : bs_Sh} {mu : bs_Mm} (hs : sh h = (8, 4)) (hm : mu h = fun _ => .null) (hn : nx = h + 1) : bs_C mX8_init (bs_rm 1 3 18) [.ref h] nx sh mu (fun r nx' sh' mu' => r = none ∧ nx' = h + 4 ∧ bs_cr1 h (8, 4) (bs_li0 [.ref (h + 1), .ref (h + 2), .ref (h + 3), .null]) [((14, 6), fun _ => .null), ((14, 6), fun _ => .null), ((14, 6), fun _ => .null)] sh' mu' sh mu) := by
  subst hn
  refine bs_ct (by decide +kernel) (Nat.le_of_ble_eq_true rfl) ?_
  refine bs_aload_n dX8_init_0 rfl ?_
  refine bs_oinit dX8_init_1 oX8_3 (by decide) (Nat.le_of_ble_eq_true rfl) ?_
  have c0 : bs_cr1 h (8, 4) (bs_li0 [.null, .null, .null, .null]) [] _ _ sh mu := bs_cr1_0 (h := h) (ob := (8, 4)) hs (hm.trans (bs_li0_0 4).symm)
  refine bs_aload_n dX8_init_4 rfl ?_
  refine bs_bipush (v := nI 6) dX8_init_5 (by decide) ?_
  refine bs_newa (ty := .int) (k := 14) (N := 6) (tk := 1) dX8_init_7 w_arr_int rfl (by decide) rfl (by decide) (by decide) (by decide) ?_
  refine bs_putF dX8_init_9 pX8_9 rfl (by rw [bs_ns_f (by omega)]; exact (congrArg Prod.fst c0.1)) ?_
  have c1 : bs_cr1 h (8, 4) (bs_li0 [.ref (h + 1), .null, .null, .null]) [((14, 6), fun _ => .null)] _ _ sh mu := c0.rowl (nx := h + 1) rfl 0 14 6 (Nat.le_of_ble_eq_true rfl)
  refine bs_aload_n dX8_init_12 rfl ?_
  refine bs_bipush (v := nI 6) dX8_init_13 (by decide) ?_
  refine bs_newa (ty := .int) (k := 14) (N := 6) (tk := 1) dX8_init_15 w_arr_int rfl (by decide) rfl (by decide) (by decide) (by decide) ?_
  refine bs_putF dX8_init_17 pX8_15 rfl (by rw [bs_ns_f (by omega)]; exact (congrArg Prod.fst c1.1)) ?_
  have c2 : bs_cr1 h (8, 4) (bs_li0 [.ref (h + 1), .ref (h + 2), .null, .null]) [((14, 6), fun _ => .null), ((14, 6), fun _ => .null)] _ _ sh mu := c1.rowl (nx := h + 2) rfl 1 14 6 (Nat.le_of_ble_eq_true rfl)
  refine bs_aload_n dX8_init_20 rfl ?_
  refine bs_bipush (v := nI 6) dX8_init_21 (by decide) ?_
  refine bs_newa (ty := .int) (k := 14) (N := 6) (tk := 1) dX8_init_23 w_arr_int rfl (by decide) rfl (by decide) (by decide) (by decide) ?_
  refine bs_putF dX8_init_25 pX8_18 rfl (by rw [bs_ns_f (by omega)]; exact (congrArg Prod.fst c2.1)) ?_
  have c3 : bs_cr1 h (8, 4) (bs_li0 [.ref (h + 1), .ref (h + 2), .ref (h + 3), .null]) [((14, 6), fun _ => .null), ((14, 6), fun _ => .null), ((14, 6), fun _ => .null)] _ _ sh mu := c2.rowl (nx := h + 3) rfl 2 14 6 (Nat.le_of_ble_eq_true rfl)
  exact bs_vret dX8_init_28 rfl (by decide) (by decide) ⟨rfl, rfl, c3⟩
set_option maxHeartbeats 4000000 in
set_option maxRecDepth 100000 in
theorem s_X10_init {h nx : Nat} {sh : bs_Sh} {mu : bs_Mm} (hs : sh h = (10, 2)) (hm : mu h = fun _ => .null) (hn : nx = h + 1) : bs_C mX10_init (bs_rm 1 1 200) [.ref h] nx sh mu (fun r nx' sh' mu' => r = none ∧ nx' = h + 2 ∧ bs_cr1 h (10, 2) (bs_li0 [.ref (h + 1), .null]) [((13, 200), fun _ => .null)] sh' mu' sh mu) := by
  subst hn
  refine bs_ct (by decide +kernel) (Nat.le_of_ble_eq_true rfl) ?_
  refine bs_aload_n dX10_init_0 rfl ?_
  refine bs_oinit dX10_init_1 oX10_3 (by decide) (Nat.le_of_ble_eq_true rfl) ?_
  have c0 : bs_cr1 h (10, 2) (bs_li0 [.null, .null]) [] _ _ sh mu := bs_cr1_0 (h := h) (ob := (10, 2)) hs (hm.trans (bs_li0_0 2).symm)
  refine bs_aload_n dX10_init_4 rfl ?_
  refine bs_sipush (v := nI 200) dX10_init_5 (by decide) ?_
  refine bs_newa (ty := .char) (k := 13) (N := 200) (tk := 0) dX10_init_8 w_arr_char rfl (by decide) rfl (by decide) (by decide) (by decide) ?_
  refine bs_putF dX10_init_10 pX10_9 rfl (by rw [bs_ns_f (by omega)]; exact (congrArg Prod.fst c0.1)) ?_
  have c1 : bs_cr1 h (10, 2) (bs_li0 [.ref (h + 1), .null]) [((13, 200), fun _ => .null)] _ _ sh mu := c0.rowl (nx := h + 1) rfl 0 13 200 (Nat.le_of_ble_eq_true rfl)
  exact bs_vret dX10_init_13 rfl (by decide) (by decide) ⟨rfl, rfl, c1⟩
set_option maxHeartbeats 4000000 in
set_option maxRecDepth 100000 in
theorem s_X6_init {h nx : Nat} {sh : bs_Sh} {mu : bs_Mm} (hs : sh h = (6, 2)) (hm : mu h = fun _ => .null) (hn : nx = h + 1) : bs_C mX6_init (bs_rm 1 1 201) [.ref h] nx sh mu (fun r nx' sh' mu' => r = none ∧ nx' = h + 2 ∧ bs_cr1 h (6, 2) (bs_li0 [.ref (h + 1), .null]) [((14, 201), fun _ => .null)] sh' mu' sh mu) := by
  subst hn
  refine bs_ct (by decide +kernel) (Nat.le_of_ble_eq_true rfl) ?_
  refine bs_aload_n dX6_init_0 rfl ?_
  refine bs_oinit dX6_init_1 oX6_3 (by decide) (Nat.le_of_ble_eq_true rfl) ?_
  have c0 : bs_cr1 h (6, 2) (bs_li0 [.null, .null]) [] _ _ sh mu := bs_cr1_0 (h := h) (ob := (6, 2)) hs (hm.trans (bs_li0_0 2).symm)
  refine bs_aload_n dX6_init_4 rfl ?_
  refine bs_sipush (v := nI 201) dX6_init_5 (by decide) ?_
  refine bs_newa (ty := .int) (k := 14) (N := 201) (tk := 1) dX6_init_8 w_arr_int rfl (by decide) rfl (by decide) (by decide) (by decide) ?_
  refine bs_putF dX6_init_10 pX6_11 rfl (by rw [bs_ns_f (by omega)]; exact (congrArg Prod.fst c0.1)) ?_
  have c1 : bs_cr1 h (6, 2) (bs_li0 [.ref (h + 1), .null]) [((14, 201), fun _ => .null)] _ _ sh mu := c0.rowl (nx := h + 1) rfl 0 14 201 (Nat.le_of_ble_eq_true rfl)
  exact bs_vret dX6_init_13 rfl (by decide) (by decide) ⟨rfl, rfl, c1⟩
set_option maxHeartbeats 4000000 in
set_option maxRecDepth 100000 in
theorem s_X1_init {h nx : Nat} {sh : bs_Sh} {mu : bs_Mm} (hs : sh h = (1, 10)) (hm : mu h = fun _ => .null) (hn : nx = h + 1) : bs_C mX1_init (bs_rm 1 6 132) [.ref h] nx sh mu (fun r nx' sh' mu' => r = none ∧ nx' = h + 7 ∧ bs_cr1 h (1, 10) (bs_li0 [.ref (h + 1), .ref (h + 2), .ref (h + 3), .ref (h + 4), .ref (h + 5), .ref (h + 6), .null, .null, .null, .null]) [((14, 6), fun _ => .null), ((14, 24), fun _ => .null), ((14, 24), fun _ => .null), ((14, 24), fun _ => .null), ((14, 24), fun _ => .null), ((14, 30), fun _ => .null)] sh' mu' sh mu) := by
  subst hn
  refine bs_ct (by decide +kernel) (Nat.le_of_ble_eq_true rfl) ?_
  refine bs_aload_n dX1_init_0 rfl ?_
  refine bs_oinit dX1_init_1 oX1_3 (by decide) (Nat.le_of_ble_eq_true rfl) ?_
  have c0 : bs_cr1 h (1, 10) (bs_li0 [.null, .null, .null, .null, .null, .null, .null, .null, .null, .null]) [] _ _ sh mu := bs_cr1_0 (h := h) (ob := (1, 10)) hs (hm.trans (bs_li0_0 10).symm)
  refine bs_aload_n dX1_init_4 rfl ?_
  refine bs_bipush (v := nI 6) dX1_init_5 (by decide) ?_
  refine bs_newa (ty := .int) (k := 14) (N := 6) (tk := 1) dX1_init_7 w_arr_int rfl (by decide) rfl (by decide) (by decide) (by decide) ?_
  refine bs_putF dX1_init_9 pX1_9 rfl (by rw [bs_ns_f (by omega)]; exact (congrArg Prod.fst c0.1)) ?_
  have c1 : bs_cr1 h (1, 10) (bs_li0 [.ref (h + 1), .null, .null, .null, .null, .null, .null, .null, .null, .null]) [((14, 6), fun _ => .null)] _ _ sh mu := c0.rowl (nx := h + 1) rfl 0 14 6 (Nat.le_of_ble_eq_true rfl)
  refine bs_aload_n dX1_init_12 rfl ?_
  refine bs_bipush (v := nI 24) dX1_init_13 (by decide) ?_
  refine bs_newa (ty := .int) (k := 14) (N := 24) (tk := 1) dX1_init_15 w_arr_int rfl (by decide) rfl (by decide) (by decide) (by decide) ?_
  refine bs_putF dX1_init_17 pX1_15 rfl (by rw [bs_ns_f (by omega)]; exact (congrArg Prod.fst c1.1)) ?_
  have c2 : bs_cr1 h (1, 10) (bs_li0 [.ref (h + 1), .ref (h + 2), .null, .null, .null, .null, .null, .null, .null, .null]) [((14, 6), fun _ => .null), ((14, 24), fun _ => .null)] _ _ sh mu := c1.rowl (nx := h + 2) rfl 1 14 24 (Nat.le_of_ble_eq_true rfl)
  refine bs_aload_n dX1_init_20 rfl ?_
  refine bs_bipush (v := nI 24) dX1_init_21 (by decide) ?_
  refine bs_newa (ty := .int) (k := 14) (N := 24) (tk := 1) dX1_init_23 w_arr_int rfl (by decide) rfl (by decide) (by decide) (by decide) ?_
  refine bs_putF dX1_init_25 pX1_18 rfl (by rw [bs_ns_f (by omega)]; exact (congrArg Prod.fst c2.1)) ?_
  have c3 : bs_cr1 h (1, 10) (bs_li0 [.ref (h + 1), .ref (h + 2), .ref (h + 3), .null, .null, .null, .null, .null, .null, .null]) [((14, 6), fun _ => .null), ((14, 24), fun _ => .null), ((14, 24), fun _ => .null)] _ _ sh mu := c2.rowl (nx := h + 3) rfl 2 14 24 (Nat.le_of_ble_eq_true rfl)
  refine bs_aload_n dX1_init_28 rfl ?_
  refine bs_bipush (v := nI 24) dX1_init_29 (by decide) ?_
  refine bs_newa (ty := .int) (k := 14) (N := 24) (tk := 1) dX1_init_31 w_arr_int rfl (by decide) rfl (by decide) (by decide) (by decide) ?_
  refine bs_putF dX1_init_33 pX1_21 rfl (by rw [bs_ns_f (by omega)]; exact (congrArg Prod.fst c3.1)) ?_
  have c4 : bs_cr1 h (1, 10) (bs_li0 [.ref (h + 1), .ref (h + 2), .ref (h + 3), .ref (h + 4), .null, .null, .null, .null, .null, .null]) [((14, 6), fun _ => .null), ((14, 24), fun _ => .null), ((14, 24), fun _ => .null), ((14, 24), fun _ => .null)] _ _ sh mu := c3.rowl (nx := h + 4) rfl 3 14 24 (Nat.le_of_ble_eq_true rfl)
  refine bs_aload_n dX1_init_36 rfl ?_
  refine bs_bipush (v := nI 24) dX1_init_37 (by decide) ?_
  refine bs_newa (ty := .int) (k := 14) (N := 24) (tk := 1) dX1_init_39 w_arr_int rfl (by decide) rfl (by decide) (by decide) (by decide) ?_
  refine bs_putF dX1_init_41 pX1_24 rfl (by rw [bs_ns_f (by omega)]; exact (congrArg Prod.fst c4.1)) ?_
  have c5 : bs_cr1 h (1, 10) (bs_li0 [.ref (h + 1), .ref (h + 2), .ref (h + 3), .ref (h + 4), .ref (h + 5), .null, .null, .null, .null, .null]) [((14, 6), fun _ => .null), ((14, 24), fun _ => .null), ((14, 24), fun _ => .null), ((14, 24), fun _ => .null), ((14, 24), fun _ => .null)] _ _ sh mu := c4.rowl (nx := h + 5) rfl 4 14 24 (Nat.le_of_ble_eq_true rfl)
  refine bs_aload_n dX1_init_44 rfl ?_
  refine bs_bipush (v := nI 30) dX1_init_45 (by decide) ?_
  refine bs_newa (ty := .int) (k := 14) (N := 30) (tk := 1) dX1_init_47 w_arr_int rfl (by decide) rfl (by decide) (by decide) (by decide) ?_
  refine bs_putF dX1_init_49 pX1_27 rfl (by rw [bs_ns_f (by omega)]; exact (congrArg Prod.fst c5.1)) ?_
  have c6 : bs_cr1 h (1, 10) (bs_li0 [.ref (h + 1), .ref (h + 2), .ref (h + 3), .ref (h + 4), .ref (h + 5), .ref (h + 6), .null, .null, .null, .null]) [((14, 6), fun _ => .null), ((14, 24), fun _ => .null), ((14, 24), fun _ => .null), ((14, 24), fun _ => .null), ((14, 24), fun _ => .null), ((14, 30), fun _ => .null)] _ _ sh mu := c5.rowl (nx := h + 6) rfl 5 14 30 (Nat.le_of_ble_eq_true rfl)
  exact bs_vret dX1_init_52 rfl (by decide) (by decide) ⟨rfl, rfl, c6⟩
set_option maxHeartbeats 4000000 in
set_option maxRecDepth 100000 in
theorem s_X5_init {h nx : Nat} {sh : bs_Sh} {mu : bs_Mm} (hs : sh h = (5, 3)) (hm : mu h = fun _ => .null) (hn : nx = h + 1) : bs_C mX5_init (bs_rm 1 3 90) [.ref h] nx sh mu (fun r nx' sh' mu' => r = none ∧ nx' = h + 4 ∧ bs_cr1 h (5, 3) (bs_li0 [.ref (h + 1), .ref (h + 2), .ref (h + 3)]) [((14, 30), fun _ => .null), ((14, 30), fun _ => .null), ((14, 30), fun _ => .null)] sh' mu' sh mu) := by
  subst hn
  refine bs_ct (by decide +kernel) (Nat.le_of_ble_eq_true rfl) ?_
  refine bs_aload_n dX5_init_0 rfl ?_
  refine bs_oinit dX5_init_1 oX5_3 (by decide) (Nat.le_of_ble_eq_true rfl) ?_
  have c0 : bs_cr1 h (5, 3) (bs_li0 [.null, .null, .null]) [] _ _ sh mu := bs_cr1_0 (h := h) (ob := (5, 3)) hs (hm.trans (bs_li0_0 3).symm)
  refine bs_aload_n dX5_init_4 rfl ?_
  refine bs_bipush (v := nI 30) dX5_init_5 (by decide) ?_
  refine bs_newa (ty := .int) (k := 14) (N := 30) (tk := 1) dX5_init_7 w_arr_int rfl (by decide) rfl (by decide) (by decide) (by decide) ?_
  refine bs_putF dX5_init_9 pX5_9 rfl (by rw [bs_ns_f (by omega)]; exact (congrArg Prod.fst c0.1)) ?_
  have c1 : bs_cr1 h (5, 3) (bs_li0 [.ref (h + 1), .null, .null]) [((14, 30), fun _ => .null)] _ _ sh mu := c0.rowl (nx := h + 1) rfl 0 14 30 (Nat.le_of_ble_eq_true rfl)
  refine bs_aload_n dX5_init_12 rfl ?_
  refine bs_bipush (v := nI 30) dX5_init_13 (by decide) ?_
  refine bs_newa (ty := .int) (k := 14) (N := 30) (tk := 1) dX5_init_15 w_arr_int rfl (by decide) rfl (by decide) (by decide) (by decide) ?_
  refine bs_putF dX5_init_17 pX5_15 rfl (by rw [bs_ns_f (by omega)]; exact (congrArg Prod.fst c1.1)) ?_
  have c2 : bs_cr1 h (5, 3) (bs_li0 [.ref (h + 1), .ref (h + 2), .null]) [((14, 30), fun _ => .null), ((14, 30), fun _ => .null)] _ _ sh mu := c1.rowl (nx := h + 2) rfl 1 14 30 (Nat.le_of_ble_eq_true rfl)
  refine bs_aload_n dX5_init_20 rfl ?_
  refine bs_bipush (v := nI 30) dX5_init_21 (by decide) ?_
  refine bs_newa (ty := .int) (k := 14) (N := 30) (tk := 1) dX5_init_23 w_arr_int rfl (by decide) rfl (by decide) (by decide) (by decide) ?_
  refine bs_putF dX5_init_25 pX5_18 rfl (by rw [bs_ns_f (by omega)]; exact (congrArg Prod.fst c2.1)) ?_
  have c3 : bs_cr1 h (5, 3) (bs_li0 [.ref (h + 1), .ref (h + 2), .ref (h + 3)]) [((14, 30), fun _ => .null), ((14, 30), fun _ => .null), ((14, 30), fun _ => .null)] _ _ sh mu := c2.rowl (nx := h + 3) rfl 2 14 30 (Nat.le_of_ble_eq_true rfl)
  exact bs_vret dX5_init_28 rfl (by decide) (by decide) ⟨rfl, rfl, c3⟩
set_option maxHeartbeats 4000000 in
set_option maxRecDepth 100000 in
theorem s_X4_init {h nx : Nat} {sh : bs_Sh} {mu : bs_Mm} (hs : sh h = (4, 10)) (hm : mu h = fun _ => .null) (hn : nx = h + 1) : bs_C mX4_init (bs_rm 1 5 232) [.ref h] nx sh mu (fun r nx' sh' mu' => r = none ∧ nx' = h + 6 ∧ bs_cr1 h (4, 10) (bs_li0 [.ref (h + 1), .ref (h + 2), .ref (h + 3), .ref (h + 4), .ref (h + 5), .null, .null, .null, .null, .null]) [((14, 8), fun _ => .null), ((14, 64), fun _ => .null), ((14, 64), fun _ => .null), ((14, 48), fun _ => .null), ((14, 48), fun _ => .null)] sh' mu' sh mu) := by
  subst hn
  refine bs_ct (by decide +kernel) (Nat.le_of_ble_eq_true rfl) ?_
  refine bs_aload_n dX4_init_0 rfl ?_
  refine bs_oinit dX4_init_1 oX4_3 (by decide) (Nat.le_of_ble_eq_true rfl) ?_
  have c0 : bs_cr1 h (4, 10) (bs_li0 [.null, .null, .null, .null, .null, .null, .null, .null, .null, .null]) [] _ _ sh mu := bs_cr1_0 (h := h) (ob := (4, 10)) hs (hm.trans (bs_li0_0 10).symm)
  refine bs_aload_n dX4_init_4 rfl ?_
  refine bs_bipush (v := nI 8) dX4_init_5 (by decide) ?_
  refine bs_newa (ty := .int) (k := 14) (N := 8) (tk := 1) dX4_init_7 w_arr_int rfl (by decide) rfl (by decide) (by decide) (by decide) ?_
  refine bs_putF dX4_init_9 pX4_11 rfl (by rw [bs_ns_f (by omega)]; exact (congrArg Prod.fst c0.1)) ?_
  have c1 : bs_cr1 h (4, 10) (bs_li0 [.ref (h + 1), .null, .null, .null, .null, .null, .null, .null, .null, .null]) [((14, 8), fun _ => .null)] _ _ sh mu := c0.rowl (nx := h + 1) rfl 0 14 8 (Nat.le_of_ble_eq_true rfl)
  refine bs_aload_n dX4_init_12 rfl ?_
  refine bs_bipush (v := nI 64) dX4_init_13 (by decide) ?_
  refine bs_newa (ty := .int) (k := 14) (N := 64) (tk := 1) dX4_init_15 w_arr_int rfl (by decide) rfl (by decide) (by decide) (by decide) ?_
  refine bs_putF dX4_init_17 pX4_15 rfl (by rw [bs_ns_f (by omega)]; exact (congrArg Prod.fst c1.1)) ?_
  have c2 : bs_cr1 h (4, 10) (bs_li0 [.ref (h + 1), .ref (h + 2), .null, .null, .null, .null, .null, .null, .null, .null]) [((14, 8), fun _ => .null), ((14, 64), fun _ => .null)] _ _ sh mu := c1.rowl (nx := h + 2) rfl 1 14 64 (Nat.le_of_ble_eq_true rfl)
  refine bs_aload_n dX4_init_20 rfl ?_
  refine bs_bipush (v := nI 64) dX4_init_21 (by decide) ?_
  refine bs_newa (ty := .int) (k := 14) (N := 64) (tk := 1) dX4_init_23 w_arr_int rfl (by decide) rfl (by decide) (by decide) (by decide) ?_
  refine bs_putF dX4_init_25 pX4_18 rfl (by rw [bs_ns_f (by omega)]; exact (congrArg Prod.fst c2.1)) ?_
  have c3 : bs_cr1 h (4, 10) (bs_li0 [.ref (h + 1), .ref (h + 2), .ref (h + 3), .null, .null, .null, .null, .null, .null, .null]) [((14, 8), fun _ => .null), ((14, 64), fun _ => .null), ((14, 64), fun _ => .null)] _ _ sh mu := c2.rowl (nx := h + 3) rfl 2 14 64 (Nat.le_of_ble_eq_true rfl)
  refine bs_aload_n dX4_init_28 rfl ?_
  refine bs_bipush (v := nI 48) dX4_init_29 (by decide) ?_
  refine bs_newa (ty := .int) (k := 14) (N := 48) (tk := 1) dX4_init_31 w_arr_int rfl (by decide) rfl (by decide) (by decide) (by decide) ?_
  refine bs_putF dX4_init_33 pX4_21 rfl (by rw [bs_ns_f (by omega)]; exact (congrArg Prod.fst c3.1)) ?_
  have c4 : bs_cr1 h (4, 10) (bs_li0 [.ref (h + 1), .ref (h + 2), .ref (h + 3), .ref (h + 4), .null, .null, .null, .null, .null, .null]) [((14, 8), fun _ => .null), ((14, 64), fun _ => .null), ((14, 64), fun _ => .null), ((14, 48), fun _ => .null)] _ _ sh mu := c3.rowl (nx := h + 4) rfl 3 14 48 (Nat.le_of_ble_eq_true rfl)
  refine bs_aload_n dX4_init_36 rfl ?_
  refine bs_bipush (v := nI 48) dX4_init_37 (by decide) ?_
  refine bs_newa (ty := .int) (k := 14) (N := 48) (tk := 1) dX4_init_39 w_arr_int rfl (by decide) rfl (by decide) (by decide) (by decide) ?_
  refine bs_putF dX4_init_41 pX4_24 rfl (by rw [bs_ns_f (by omega)]; exact (congrArg Prod.fst c4.1)) ?_
  have c5 : bs_cr1 h (4, 10) (bs_li0 [.ref (h + 1), .ref (h + 2), .ref (h + 3), .ref (h + 4), .ref (h + 5), .null, .null, .null, .null, .null]) [((14, 8), fun _ => .null), ((14, 64), fun _ => .null), ((14, 64), fun _ => .null), ((14, 48), fun _ => .null), ((14, 48), fun _ => .null)] _ _ sh mu := c4.rowl (nx := h + 5) rfl 4 14 48 (Nat.le_of_ble_eq_true rfl)
  exact bs_vret dX4_init_44 rfl (by decide) (by decide) ⟨rfl, rfl, c5⟩
set_option maxHeartbeats 4000000 in
set_option maxRecDepth 100000 in
theorem s_X0_init {h nx : Nat} {sh : bs_Sh} {mu : bs_Mm} (hs : sh h = (0, 7)) (hm : mu h = fun _ => .null) (hn : nx = h + 1) : bs_C mX0_init (bs_rm 1 4 1730) [.ref h] nx sh mu (fun r nx' sh' mu' => r = none ∧ nx' = h + 5 ∧ bs_cr1 h (0, 7) (bs_li0 [.ref (h + 1), .ref (h + 2), .ref (h + 3), .ref (h + 4), .null, .null, .null]) [((14, 61), fun _ => .null), ((14, 1464), fun _ => .null), ((14, 5), fun _ => .null), ((15, 200), fun _ => .null)] sh' mu' sh mu) := by
  subst hn
  refine bs_ct (by decide +kernel) (Nat.le_of_ble_eq_true rfl) ?_
  refine bs_aload_n dX0_init_0 rfl ?_
  refine bs_oinit dX0_init_1 oX0_3 (by decide) (Nat.le_of_ble_eq_true rfl) ?_
  have c0 : bs_cr1 h (0, 7) (bs_li0 [.null, .null, .null, .null, .null, .null, .null]) [] _ _ sh mu := bs_cr1_0 (h := h) (ob := (0, 7)) hs (hm.trans (bs_li0_0 7).symm)
  refine bs_aload_n dX0_init_4 rfl ?_
  refine bs_bipush (v := nI 61) dX0_init_5 (by decide) ?_
  refine bs_newa (ty := .int) (k := 14) (N := 61) (tk := 1) dX0_init_7 w_arr_int rfl (by decide) rfl (by decide) (by decide) (by decide) ?_
  refine bs_putF dX0_init_9 pX0_9 rfl (by rw [bs_ns_f (by omega)]; exact (congrArg Prod.fst c0.1)) ?_
  have c1 : bs_cr1 h (0, 7) (bs_li0 [.ref (h + 1), .null, .null, .null, .null, .null, .null]) [((14, 61), fun _ => .null)] _ _ sh mu := c0.rowl (nx := h + 1) rfl 0 14 61 (Nat.le_of_ble_eq_true rfl)
  refine bs_aload_n dX0_init_12 rfl ?_
  refine bs_sipush (v := nI 1464) dX0_init_13 (by decide) ?_
  refine bs_newa (ty := .int) (k := 14) (N := 1464) (tk := 1) dX0_init_16 w_arr_int rfl (by decide) rfl (by decide) (by decide) (by decide) ?_
  refine bs_putF dX0_init_18 pX0_15 rfl (by rw [bs_ns_f (by omega)]; exact (congrArg Prod.fst c1.1)) ?_
  have c2 : bs_cr1 h (0, 7) (bs_li0 [.ref (h + 1), .ref (h + 2), .null, .null, .null, .null, .null]) [((14, 61), fun _ => .null), ((14, 1464), fun _ => .null)] _ _ sh mu := c1.rowl (nx := h + 2) rfl 1 14 1464 (Nat.le_of_ble_eq_true rfl)
  refine bs_aload_n dX0_init_21 rfl ?_
  refine bs_iconst (v := nI 5) dX0_init_22 (by decide) ?_
  refine bs_newa (ty := .int) (k := 14) (N := 5) (tk := 1) dX0_init_23 w_arr_int rfl (by decide) rfl (by decide) (by decide) (by decide) ?_
  refine bs_putF dX0_init_25 pX0_18 rfl (by rw [bs_ns_f (by omega)]; exact (congrArg Prod.fst c2.1)) ?_
  have c3 : bs_cr1 h (0, 7) (bs_li0 [.ref (h + 1), .ref (h + 2), .ref (h + 3), .null, .null, .null, .null]) [((14, 61), fun _ => .null), ((14, 1464), fun _ => .null), ((14, 5), fun _ => .null)] _ _ sh mu := c2.rowl (nx := h + 3) rfl 2 14 5 (Nat.le_of_ble_eq_true rfl)
  refine bs_aload_n dX0_init_28 rfl ?_
  refine bs_sipush (v := nI 200) dX0_init_29 (by decide) ?_
  refine bs_newa (ty := .long) (k := 15) (N := 200) (tk := 2) dX0_init_32 w_arr_long rfl (by decide) rfl (by decide) (by decide) (by decide) ?_
  refine bs_putF dX0_init_34 pX0_21 rfl (by rw [bs_ns_f (by omega)]; exact (congrArg Prod.fst c3.1)) ?_
  have c4 : bs_cr1 h (0, 7) (bs_li0 [.ref (h + 1), .ref (h + 2), .ref (h + 3), .ref (h + 4), .null, .null, .null]) [((14, 61), fun _ => .null), ((14, 1464), fun _ => .null), ((14, 5), fun _ => .null), ((15, 200), fun _ => .null)] _ _ sh mu := c3.rowl (nx := h + 4) rfl 3 15 200 (Nat.le_of_ble_eq_true rfl)
  exact bs_vret dX0_init_37 rfl (by decide) (by decide) ⟨rfl, rfl, c4⟩
set_option maxHeartbeats 4000000 in
set_option maxRecDepth 100000 in
theorem s_X9_init {h nx : Nat} {sh : bs_Sh} {mu : bs_Mm} (hs : sh h = (9, 15)) (hm : mu h = fun _ => .null) (hn : nx = h + 1) : bs_C mX9_init (bs_rm 1 10 228) [.ref h] nx sh mu (fun r nx' sh' mu' => r = none ∧ nx' = h + 11 ∧ bs_cr1 h (9, 15) (bs_li0 [.ref (h + 1), .int 1, .null, .null, .null, .ref (h + 2), .ref (h + 3), .ref (h + 4), .ref (h + 5), .ref (h + 6), .ref (h + 7), .ref (h + 8), .ref (h + 9), .ref (h + 10), .null]) [((14, 6), fun _ => .null), ((14, 30), fun _ => .null), ((14, 30), fun _ => .null), ((14, 30), fun _ => .null), ((14, 30), fun _ => .null), ((14, 30), fun _ => .null), ((14, 30), fun _ => .null), ((14, 30), fun _ => .null), ((14, 6), fun _ => .null), ((14, 6), fun _ => .null)] sh' mu' sh mu) := by
  subst hn
  refine bs_ct (by decide +kernel) (Nat.le_of_ble_eq_true rfl) ?_
  refine bs_aload_n dX9_init_0 rfl ?_
  refine bs_oinit dX9_init_1 oX9_3 (by decide) (Nat.le_of_ble_eq_true rfl) ?_
  have c0 : bs_cr1 h (9, 15) (bs_li0 [.null, .null, .null, .null, .null, .null, .null, .null, .null, .null, .null, .null, .null, .null, .null]) [] _ _ sh mu := bs_cr1_0 (h := h) (ob := (9, 15)) hs (hm.trans (bs_li0_0 15).symm)
  refine bs_aload_n dX9_init_4 rfl ?_
  refine bs_bipush (v := nI 6) dX9_init_5 (by decide) ?_
  refine bs_newa (ty := .int) (k := 14) (N := 6) (tk := 1) dX9_init_7 w_arr_int rfl (by decide) rfl (by decide) (by decide) (by decide) ?_
  refine bs_putF dX9_init_9 pX9_9 rfl (by rw [bs_ns_f (by omega)]; exact (congrArg Prod.fst c0.1)) ?_
  have c1 : bs_cr1 h (9, 15) (bs_li0 [.ref (h + 1), .null, .null, .null, .null, .null, .null, .null, .null, .null, .null, .null, .null, .null, .null]) [((14, 6), fun _ => .null)] _ _ sh mu := c0.rowl (nx := h + 1) rfl 0 14 6 (Nat.le_of_ble_eq_true rfl)
  refine bs_aload_n dX9_init_12 rfl ?_
  refine bs_iconst (v := 1) dX9_init_13 (by decide) ?_
  refine bs_putI dX9_init_14 pX9_15 (congrArg Prod.fst c1.1) ?_
  have c2 : bs_cr1 h (9, 15) (bs_li0 [.ref (h + 1), .int 1, .null, .null, .null, .null, .null, .null, .null, .null, .null, .null, .null, .null, .null]) [((14, 6), fun _ => .null)] _ _ sh mu := c1.putl 1 (.int 1) (Nat.le_of_ble_eq_true rfl)
  refine bs_aload_n dX9_init_17 rfl ?_
  refine bs_bipush (v := nI 30) dX9_init_18 (by decide) ?_
  refine bs_newa (ty := .int) (k := 14) (N := 30) (tk := 1) dX9_init_20 w_arr_int rfl (by decide) rfl (by decide) (by decide) (by decide) ?_
  refine bs_putF dX9_init_22 pX9_19 rfl (by rw [bs_ns_f (by omega)]; exact (congrArg Prod.fst c2.1)) ?_
  have c3 : bs_cr1 h (9, 15) (bs_li0 [.ref (h + 1), .int 1, .null, .null, .null, .ref (h + 2), .null, .null, .null, .null, .null, .null, .null, .null, .null]) [((14, 6), fun _ => .null), ((14, 30), fun _ => .null)] _ _ sh mu := c2.rowl (nx := h + 2) rfl 5 14 30 (Nat.le_of_ble_eq_true rfl)
  refine bs_aload_n dX9_init_25 rfl ?_
  refine bs_bipush (v := nI 30) dX9_init_26 (by decide) ?_
  refine bs_newa (ty := .int) (k := 14) (N := 30) (tk := 1) dX9_init_28 w_arr_int rfl (by decide) rfl (by decide) (by decide) (by decide) ?_
  refine bs_putF dX9_init_30 pX9_22 rfl (by rw [bs_ns_f (by omega)]; exact (congrArg Prod.fst c3.1)) ?_
  have c4 : bs_cr1 h (9, 15) (bs_li0 [.ref (h + 1), .int 1, .null, .null, .null, .ref (h + 2), .ref (h + 3), .null, .null, .null, .null, .null, .null, .null, .null]) [((14, 6), fun _ => .null), ((14, 30), fun _ => .null), ((14, 30), fun _ => .null)] _ _ sh mu := c3.rowl (nx := h + 3) rfl 6 14 30 (Nat.le_of_ble_eq_true rfl)
  refine bs_aload_n dX9_init_33 rfl ?_
  refine bs_bipush (v := nI 30) dX9_init_34 (by decide) ?_
  refine bs_newa (ty := .int) (k := 14) (N := 30) (tk := 1) dX9_init_36 w_arr_int rfl (by decide) rfl (by decide) (by decide) (by decide) ?_
  refine bs_putF dX9_init_38 pX9_25 rfl (by rw [bs_ns_f (by omega)]; exact (congrArg Prod.fst c4.1)) ?_
  have c5 : bs_cr1 h (9, 15) (bs_li0 [.ref (h + 1), .int 1, .null, .null, .null, .ref (h + 2), .ref (h + 3), .ref (h + 4), .null, .null, .null, .null, .null, .null, .null]) [((14, 6), fun _ => .null), ((14, 30), fun _ => .null), ((14, 30), fun _ => .null), ((14, 30), fun _ => .null)] _ _ sh mu := c4.rowl (nx := h + 4) rfl 7 14 30 (Nat.le_of_ble_eq_true rfl)
  refine bs_aload_n dX9_init_41 rfl ?_
  refine bs_bipush (v := nI 30) dX9_init_42 (by decide) ?_
  refine bs_newa (ty := .int) (k := 14) (N := 30) (tk := 1) dX9_init_44 w_arr_int rfl (by decide) rfl (by decide) (by decide) (by decide) ?_
  refine bs_putF dX9_init_46 pX9_28 rfl (by rw [bs_ns_f (by omega)]; exact (congrArg Prod.fst c5.1)) ?_
  have c6 : bs_cr1 h (9, 15) (bs_li0 [.ref (h + 1), .int 1, .null, .null, .null, .ref (h + 2), .ref (h + 3), .ref (h + 4), .ref (h + 5), .null, .null, .null, .null, .null, .null]) [((14, 6), fun _ => .null), ((14, 30), fun _ => .null), ((14, 30), fun _ => .null), ((14, 30), fun _ => .null), ((14, 30), fun _ => .null)] _ _ sh mu := c5.rowl (nx := h + 5) rfl 8 14 30 (Nat.le_of_ble_eq_true rfl)
  refine bs_aload_n dX9_init_49 rfl ?_
  refine bs_bipush (v := nI 30) dX9_init_50 (by decide) ?_
  refine bs_newa (ty := .int) (k := 14) (N := 30) (tk := 1) dX9_init_52 w_arr_int rfl (by decide) rfl (by decide) (by decide) (by decide) ?_
  refine bs_putF dX9_init_54 pX9_31 rfl (by rw [bs_ns_f (by omega)]; exact (congrArg Prod.fst c6.1)) ?_
  have c7 : bs_cr1 h (9, 15) (bs_li0 [.ref (h + 1), .int 1, .null, .null, .null, .ref (h + 2), .ref (h + 3), .ref (h + 4), .ref (h + 5), .ref (h + 6), .null, .null, .null, .null, .null]) [((14, 6), fun _ => .null), ((14, 30), fun _ => .null), ((14, 30), fun _ => .null), ((14, 30), fun _ => .null), ((14, 30), fun _ => .null), ((14, 30), fun _ => .null)] _ _ sh mu := c6.rowl (nx := h + 6) rfl 9 14 30 (Nat.le_of_ble_eq_true rfl)
  refine bs_aload_n dX9_init_57 rfl ?_
  refine bs_bipush (v := nI 30) dX9_init_58 (by decide) ?_
  refine bs_newa (ty := .int) (k := 14) (N := 30) (tk := 1) dX9_init_60 w_arr_int rfl (by decide) rfl (by decide) (by decide) (by decide) ?_
  refine bs_putF dX9_init_62 pX9_34 rfl (by rw [bs_ns_f (by omega)]; exact (congrArg Prod.fst c7.1)) ?_
  have c8 : bs_cr1 h (9, 15) (bs_li0 [.ref (h + 1), .int 1, .null, .null, .null, .ref (h + 2), .ref (h + 3), .ref (h + 4), .ref (h + 5), .ref (h + 6), .ref (h + 7), .null, .null, .null, .null]) [((14, 6), fun _ => .null), ((14, 30), fun _ => .null), ((14, 30), fun _ => .null), ((14, 30), fun _ => .null), ((14, 30), fun _ => .null), ((14, 30), fun _ => .null), ((14, 30), fun _ => .null)] _ _ sh mu := c7.rowl (nx := h + 7) rfl 10 14 30 (Nat.le_of_ble_eq_true rfl)
  refine bs_aload_n dX9_init_65 rfl ?_
  refine bs_bipush (v := nI 30) dX9_init_66 (by decide) ?_
  refine bs_newa (ty := .int) (k := 14) (N := 30) (tk := 1) dX9_init_68 w_arr_int rfl (by decide) rfl (by decide) (by decide) (by decide) ?_
  refine bs_putF dX9_init_70 pX9_37 rfl (by rw [bs_ns_f (by omega)]; exact (congrArg Prod.fst c8.1)) ?_
  have c9 : bs_cr1 h (9, 15) (bs_li0 [.ref (h + 1), .int 1, .null, .null, .null, .ref (h + 2), .ref (h + 3), .ref (h + 4), .ref (h + 5), .ref (h + 6), .ref (h + 7), .ref (h + 8), .null, .null, .null]) [((14, 6), fun _ => .null), ((14, 30), fun _ => .null), ((14, 30), fun _ => .null), ((14, 30), fun _ => .null), ((14, 30), fun _ => .null), ((14, 30), fun _ => .null), ((14, 30), fun _ => .null), ((14, 30), fun _ => .null)] _ _ sh mu := c8.rowl (nx := h + 8) rfl 11 14 30 (Nat.le_of_ble_eq_true rfl)
  refine bs_aload_n dX9_init_73 rfl ?_
  refine bs_bipush (v := nI 6) dX9_init_74 (by decide) ?_
  refine bs_newa (ty := .int) (k := 14) (N := 6) (tk := 1) dX9_init_76 w_arr_int rfl (by decide) rfl (by decide) (by decide) (by decide) ?_
  refine bs_putF dX9_init_78 pX9_40 rfl (by rw [bs_ns_f (by omega)]; exact (congrArg Prod.fst c9.1)) ?_
  have c10 : bs_cr1 h (9, 15) (bs_li0 [.ref (h + 1), .int 1, .null, .null, .null, .ref (h + 2), .ref (h + 3), .ref (h + 4), .ref (h + 5), .ref (h + 6), .ref (h + 7), .ref (h + 8), .ref (h + 9), .null, .null]) [((14, 6), fun _ => .null), ((14, 30), fun _ => .null), ((14, 30), fun _ => .null), ((14, 30), fun _ => .null), ((14, 30), fun _ => .null), ((14, 30), fun _ => .null), ((14, 30), fun _ => .null), ((14, 30), fun _ => .null), ((14, 6), fun _ => .null)] _ _ sh mu := c9.rowl (nx := h + 9) rfl 12 14 6 (Nat.le_of_ble_eq_true rfl)
  refine bs_aload_n dX9_init_81 rfl ?_
  refine bs_bipush (v := nI 6) dX9_init_82 (by decide) ?_
  refine bs_newa (ty := .int) (k := 14) (N := 6) (tk := 1) dX9_init_84 w_arr_int rfl (by decide) rfl (by decide) (by decide) (by decide) ?_
  refine bs_putF dX9_init_86 pX9_43 rfl (by rw [bs_ns_f (by omega)]; exact (congrArg Prod.fst c10.1)) ?_
  have c11 : bs_cr1 h (9, 15) (bs_li0 [.ref (h + 1), .int 1, .null, .null, .null, .ref (h + 2), .ref (h + 3), .ref (h + 4), .ref (h + 5), .ref (h + 6), .ref (h + 7), .ref (h + 8), .ref (h + 9), .ref (h + 10), .null]) [((14, 6), fun _ => .null), ((14, 30), fun _ => .null), ((14, 30), fun _ => .null), ((14, 30), fun _ => .null), ((14, 30), fun _ => .null), ((14, 30), fun _ => .null), ((14, 30), fun _ => .null), ((14, 30), fun _ => .null), ((14, 6), fun _ => .null), ((14, 6), fun _ => .null)] _ _ sh mu := c10.rowl (nx := h + 10) rfl 13 14 6 (Nat.le_of_ble_eq_true rfl)
  exact bs_vret dX9_init_89 rfl (by decide) (by decide) ⟨rfl, rfl, c11⟩
set_option maxHeartbeats 4000000 in
set_option maxRecDepth 100000 in
theorem s_X3_init {h nx : Nat} {sh : bs_Sh} {mu : bs_Mm} (hs : sh h = (3, 8)) (hm : mu h = fun _ => .null) (hn : nx = h + 1) : bs_C mX3_init (bs_rm 1 8 6936) [.ref h] nx sh mu (fun r nx' sh' mu' => r = none ∧ nx' = h + 9 ∧ bs_cr1 h (3, 8) (bs_li0 [.ref (h + 1), .ref (h + 2), .ref (h + 3), .ref (h + 4), .ref (h + 5), .ref (h + 6), .ref (h + 7), .ref (h + 8)]) [((14, 1024), fun _ => .null), ((14, 1024), fun _ => .null), ((14, 1024), fun _ => .null), ((14, 1024), fun _ => .null), ((16, 1024), fun _ => .null), ((16, 1024), fun _ => .null), ((14, 72), fun j => if j < 72 then .int (-2) else .null), ((14, 720), fun _ => .null)] sh' mu' sh mu) := by
  subst hn
  refine bs_ct (by decide +kernel) (Nat.le_of_ble_eq_true rfl) ?_
  refine bs_aload_n dX3_init_0 rfl ?_
  refine bs_oinit dX3_init_1 oX3_5 (by decide) (Nat.le_of_ble_eq_true rfl) ?_
  have c0 : bs_cr1 h (3, 8) (bs_li0 [.null, .null, .null, .null, .null, .null, .null, .null]) [] _ _ sh mu := bs_cr1_0 (h := h) (ob := (3, 8)) hs (hm.trans (bs_li0_0 8).symm)
  refine bs_aload_n dX3_init_4 rfl ?_
  refine bs_sipush (v := nI 1024) dX3_init_5 (by decide) ?_
  refine bs_newa (ty := .int) (k := 14) (N := 1024) (tk := 1) dX3_init_8 w_arr_int rfl (by decide) rfl (by decide) (by decide) (by decide) ?_
  refine bs_putF dX3_init_10 pX3_11 rfl (by rw [bs_ns_f (by omega)]; exact (congrArg Prod.fst c0.1)) ?_
  have c1 : bs_cr1 h (3, 8) (bs_li0 [.ref (h + 1), .null, .null, .null, .null, .null, .null, .null]) [((14, 1024), fun _ => .null)] _ _ sh mu := c0.rowl (nx := h + 1) rfl 0 14 1024 (Nat.le_of_ble_eq_true rfl)
  refine bs_aload_n dX3_init_13 rfl ?_
  refine bs_sipush (v := nI 1024) dX3_init_14 (by decide) ?_
  refine bs_newa (ty := .int) (k := 14) (N := 1024) (tk := 1) dX3_init_17 w_arr_int rfl (by decide) rfl (by decide) (by decide) (by decide) ?_
  refine bs_putF dX3_init_19 pX3_15 rfl (by rw [bs_ns_f (by omega)]; exact (congrArg Prod.fst c1.1)) ?_
  have c2 : bs_cr1 h (3, 8) (bs_li0 [.ref (h + 1), .ref (h + 2), .null, .null, .null, .null, .null, .null]) [((14, 1024), fun _ => .null), ((14, 1024), fun _ => .null)] _ _ sh mu := c1.rowl (nx := h + 2) rfl 1 14 1024 (Nat.le_of_ble_eq_true rfl)
  refine bs_aload_n dX3_init_22 rfl ?_
  refine bs_sipush (v := nI 1024) dX3_init_23 (by decide) ?_
  refine bs_newa (ty := .int) (k := 14) (N := 1024) (tk := 1) dX3_init_26 w_arr_int rfl (by decide) rfl (by decide) (by decide) (by decide) ?_
  refine bs_putF dX3_init_28 pX3_18 rfl (by rw [bs_ns_f (by omega)]; exact (congrArg Prod.fst c2.1)) ?_
  have c3 : bs_cr1 h (3, 8) (bs_li0 [.ref (h + 1), .ref (h + 2), .ref (h + 3), .null, .null, .null, .null, .null]) [((14, 1024), fun _ => .null), ((14, 1024), fun _ => .null), ((14, 1024), fun _ => .null)] _ _ sh mu := c2.rowl (nx := h + 3) rfl 2 14 1024 (Nat.le_of_ble_eq_true rfl)
  refine bs_aload_n dX3_init_31 rfl ?_
  refine bs_sipush (v := nI 1024) dX3_init_32 (by decide) ?_
  refine bs_newa (ty := .int) (k := 14) (N := 1024) (tk := 1) dX3_init_35 w_arr_int rfl (by decide) rfl (by decide) (by decide) (by decide) ?_
  refine bs_putF dX3_init_37 pX3_21 rfl (by rw [bs_ns_f (by omega)]; exact (congrArg Prod.fst c3.1)) ?_
  have c4 : bs_cr1 h (3, 8) (bs_li0 [.ref (h + 1), .ref (h + 2), .ref (h + 3), .ref (h + 4), .null, .null, .null, .null]) [((14, 1024), fun _ => .null), ((14, 1024), fun _ => .null), ((14, 1024), fun _ => .null), ((14, 1024), fun _ => .null)] _ _ sh mu := c3.rowl (nx := h + 4) rfl 3 14 1024 (Nat.le_of_ble_eq_true rfl)
  refine bs_aload_n dX3_init_40 rfl ?_
  refine bs_sipush (v := nI 1024) dX3_init_41 (by decide) ?_
  refine bs_newa (ty := .boolean) (k := 16) (N := 1024) (tk := 3) dX3_init_44 w_arr_boolean rfl (by decide) rfl (by decide) (by decide) (by decide) ?_
  refine bs_putF dX3_init_46 pX3_24 rfl (by rw [bs_ns_f (by omega)]; exact (congrArg Prod.fst c4.1)) ?_
  have c5 : bs_cr1 h (3, 8) (bs_li0 [.ref (h + 1), .ref (h + 2), .ref (h + 3), .ref (h + 4), .ref (h + 5), .null, .null, .null]) [((14, 1024), fun _ => .null), ((14, 1024), fun _ => .null), ((14, 1024), fun _ => .null), ((14, 1024), fun _ => .null), ((16, 1024), fun _ => .null)] _ _ sh mu := c4.rowl (nx := h + 5) rfl 4 16 1024 (Nat.le_of_ble_eq_true rfl)
  refine bs_aload_n dX3_init_49 rfl ?_
  refine bs_sipush (v := nI 1024) dX3_init_50 (by decide) ?_
  refine bs_newa (ty := .boolean) (k := 16) (N := 1024) (tk := 3) dX3_init_53 w_arr_boolean rfl (by decide) rfl (by decide) (by decide) (by decide) ?_
  refine bs_putF dX3_init_55 pX3_28 rfl (by rw [bs_ns_f (by omega)]; exact (congrArg Prod.fst c5.1)) ?_
  have c6 : bs_cr1 h (3, 8) (bs_li0 [.ref (h + 1), .ref (h + 2), .ref (h + 3), .ref (h + 4), .ref (h + 5), .ref (h + 6), .null, .null]) [((14, 1024), fun _ => .null), ((14, 1024), fun _ => .null), ((14, 1024), fun _ => .null), ((14, 1024), fun _ => .null), ((16, 1024), fun _ => .null), ((16, 1024), fun _ => .null)] _ _ sh mu := c5.rowl (nx := h + 6) rfl 5 16 1024 (Nat.le_of_ble_eq_true rfl)
  refine bs_aload_n dX3_init_58 rfl ?_
  refine bs_bipush (v := nI 72) dX3_init_59 (by decide) ?_
  refine bs_newa (ty := .int) (k := 14) (N := 72) (tk := 1) dX3_init_61 w_arr_int rfl (by decide) rfl (by decide) (by decide) (by decide) ?_
  refine bs_putF dX3_init_63 pX3_31 rfl (by rw [bs_ns_f (by omega)]; exact (congrArg Prod.fst c6.1)) ?_
  have c7 : bs_cr1 h (3, 8) (bs_li0 [.ref (h + 1), .ref (h + 2), .ref (h + 3), .ref (h + 4), .ref (h + 5), .ref (h + 6), .ref (h + 7), .null]) [((14, 1024), fun _ => .null), ((14, 1024), fun _ => .null), ((14, 1024), fun _ => .null), ((14, 1024), fun _ => .null), ((16, 1024), fun _ => .null), ((16, 1024), fun _ => .null), ((14, 72), fun _ => .null)] _ _ sh mu := c6.rowl (nx := h + 7) rfl 6 14 72 (Nat.le_of_ble_eq_true rfl)
  refine bs_aload_n dX3_init_66 rfl ?_
  refine bs_sipush (v := nI 720) dX3_init_67 (by decide) ?_
  refine bs_newa (ty := .int) (k := 14) (N := 720) (tk := 1) dX3_init_70 w_arr_int rfl (by decide) rfl (by decide) (by decide) (by decide) ?_
  refine bs_putF dX3_init_72 pX3_34 rfl (by rw [bs_ns_f (by omega)]; exact (congrArg Prod.fst c7.1)) ?_
  have c8 : bs_cr1 h (3, 8) (bs_li0 [.ref (h + 1), .ref (h + 2), .ref (h + 3), .ref (h + 4), .ref (h + 5), .ref (h + 6), .ref (h + 7), .ref (h + 8)]) [((14, 1024), fun _ => .null), ((14, 1024), fun _ => .null), ((14, 1024), fun _ => .null), ((14, 1024), fun _ => .null), ((16, 1024), fun _ => .null), ((16, 1024), fun _ => .null), ((14, 72), fun _ => .null), ((14, 720), fun _ => .null)] _ _ sh mu := c7.rowl (nx := h + 8) rfl 7 14 720 (Nat.le_of_ble_eq_true rfl)
  refine bs_aload_n dX3_init_75 rfl ?_
  refine bs_getR dX3_init_76 fX3_31 (congrArg Prod.fst c8.1) (b := h + 7) (by rw [c8.2.1]; rfl) ?_
  refine bs_bipush (v := -2) dX3_init_79 (by decide) ?_
  refine bs_callS dX3_init_81 qX3_37 (s_fill (h + 7) 72 (-2) (c8.2.2.1 6 _ rfl).1 (by decide)) rfl rfl (Nat.le_of_ble_eq_true rfl) ⟨⟨by decide, by decide⟩, by decide, by decide⟩ (fun v9 nx9 sh9 mu9 hp9 => ?_)
  obtain ⟨rfl, rfl, rfl, rfl⟩ := hp9
  exact bs_vret dX3_init_84 rfl (by decide) (by decide) ⟨rfl, rfl, c8.fill 6 rfl rfl 72 (.int (-2))⟩
set_option maxHeartbeats 4000000 in
set_option maxRecDepth 100000 in
theorem s_X2_init {h nx : Nat} {sh : bs_Sh} {mu : bs_Mm} (hs : sh h = (2, 11)) (hm : mu h = fun _ => .null) (hn : nx = h + 1) : bs_C mX2_init (bs_rm 2 10 186) [.ref h] nx sh mu (fun r nx' sh' mu' => r = none ∧ nx' = h + 11 ∧ bs_cr1 h (2, 11) (bs_li0 [.ref (h + 1), .ref (h + 8), .ref (h + 9), .ref (h + 10), .null, .null, .null, .null, .null, .null, .null]) [((1, 10), bs_li0 [.ref (h + 2), .ref (h + 3), .ref (h + 4), .ref (h + 5), .ref (h + 6), .ref (h + 7), .null, .null, .null, .null]), ((14, 6), fun _ => .null), ((14, 24), fun _ => .null), ((14, 24), fun _ => .null), ((14, 24), fun _ => .null), ((14, 24), fun _ => .null), ((14, 30), fun _ => .null), ((14, 30), fun _ => .null), ((14, 8), fun _ => .null), ((14, 6), fun _ => .null)] sh' mu' sh mu) := by
  subst hn
  refine bs_ct (by decide +kernel) (Nat.le_of_ble_eq_true rfl) ?_
  refine bs_aload_n dX2_init_0 rfl ?_
  refine bs_oinit dX2_init_1 oX2_3 (by decide) (Nat.le_of_ble_eq_true rfl) ?_
  have c0 : bs_cr1 h (2, 11) (bs_li0 [.null, .null, .null, .null, .null, .null, .null, .null, .null, .null, .null]) [] _ _ sh mu := bs_cr1_0 (h := h) (ob := (2, 11)) hs (hm.trans (bs_li0_0 11).symm)
  refine bs_aload_n dX2_init_4 rfl ?_
  refine bs_new dX2_init_5 nX2_9 (by decide) (by decide) ?_
  refine bs_dup dX2_init_8 rfl ?_
  refine bs_callIN dX2_init_9 qX2_11 rfl (s_X1_init (h := h + 1) bs_ns_s bs_nm_s rfl) rfl rfl (Nat.le_of_ble_eq_true rfl) ⟨⟨by decide, by decide⟩, by decide, by decide⟩ (fun v0 nx0 sh0 mu0 hp0 => ?_)
  obtain ⟨rfl, rfl, H0⟩ := hp0
  refine bs_putF dX2_init_12 pX2_12 rfl (by rw [(H0.2.2.2 h (by omega)).1, bs_ns_f (by omega)]; exact (congrArg Prod.fst c0.1)) ?_
  have c1 : bs_cr1 h (2, 11) (bs_li0 [.ref (h + 1), .null, .null, .null, .null, .null, .null, .null, .null, .null, .null]) [((1, 10), bs_li0 [.ref (h + 2), .ref (h + 3), .ref (h + 4), .ref (h + 5), .ref (h + 6), .ref (h + 7), .null, .null, .null, .null]), ((14, 6), fun _ => .null), ((14, 24), fun _ => .null), ((14, 24), fun _ => .null), ((14, 24), fun _ => .null), ((14, 24), fun _ => .null), ((14, 30), fun _ => .null)] _ _ sh mu := (c0.obj (nx := h + 1) rfl H0).putl 0 (.ref (h + 1)) (Nat.le_of_ble_eq_true rfl)
  refine bs_aload_n dX2_init_15 rfl ?_
  refine bs_bipush (v := nI 30) dX2_init_16 (by decide) ?_
  refine bs_newa (ty := .int) (k := 14) (N := 30) (tk := 1) dX2_init_18 w_arr_int rfl (by decide) rfl (by decide) (by decide) (by decide) ?_
  refine bs_putF dX2_init_20 pX2_18 rfl (by rw [bs_ns_f (by omega)]; exact (congrArg Prod.fst c1.1)) ?_
  have c2 : bs_cr1 h (2, 11) (bs_li0 [.ref (h + 1), .ref (h + 8), .null, .null, .null, .null, .null, .null, .null, .null, .null]) [((1, 10), bs_li0 [.ref (h + 2), .ref (h + 3), .ref (h + 4), .ref (h + 5), .ref (h + 6), .ref (h + 7), .null, .null, .null, .null]), ((14, 6), fun _ => .null), ((14, 24), fun _ => .null), ((14, 24), fun _ => .null), ((14, 24), fun _ => .null), ((14, 24), fun _ => .null), ((14, 30), fun _ => .null), ((14, 30), fun _ => .null)] _ _ sh mu := c1.rowl (nx := h + 8) rfl 1 14 30 (Nat.le_of_ble_eq_true rfl)
  refine bs_aload_n dX2_init_23 rfl ?_
  refine bs_bipush (v := nI 8) dX2_init_24 (by decide) ?_
  refine bs_newa (ty := .int) (k := 14) (N := 8) (tk := 1) dX2_init_26 w_arr_int rfl (by decide) rfl (by decide) (by decide) (by decide) ?_
  refine bs_putF dX2_init_28 pX2_22 rfl (by rw [bs_ns_f (by omega)]; exact (congrArg Prod.fst c2.1)) ?_
  have c3 : bs_cr1 h (2, 11) (bs_li0 [.ref (h + 1), .ref (h + 8), .ref (h + 9), .null, .null, .null, .null, .null, .null, .null, .null]) [((1, 10), bs_li0 [.ref (h + 2), .ref (h + 3), .ref (h + 4), .ref (h + 5), .ref (h + 6), .ref (h + 7), .null, .null, .null, .null]), ((14, 6), fun _ => .null), ((14, 24), fun _ => .null), ((14, 24), fun _ => .null), ((14, 24), fun _ => .null), ((14, 24), fun _ => .null), ((14, 30), fun _ => .null), ((14, 30), fun _ => .null), ((14, 8), fun _ => .null)] _ _ sh mu := c2.rowl (nx := h + 9) rfl 2 14 8 (Nat.le_of_ble_eq_true rfl)
  refine bs_aload_n dX2_init_31 rfl ?_
  refine bs_bipush (v := nI 6) dX2_init_32 (by decide) ?_
  refine bs_newa (ty := .int) (k := 14) (N := 6) (tk := 1) dX2_init_34 w_arr_int rfl (by decide) rfl (by decide) (by decide) (by decide) ?_
  refine bs_putF dX2_init_36 pX2_25 rfl (by rw [bs_ns_f (by omega)]; exact (congrArg Prod.fst c3.1)) ?_
  have c4 : bs_cr1 h (2, 11) (bs_li0 [.ref (h + 1), .ref (h + 8), .ref (h + 9), .ref (h + 10), .null, .null, .null, .null, .null, .null, .null]) [((1, 10), bs_li0 [.ref (h + 2), .ref (h + 3), .ref (h + 4), .ref (h + 5), .ref (h + 6), .ref (h + 7), .null, .null, .null, .null]), ((14, 6), fun _ => .null), ((14, 24), fun _ => .null), ((14, 24), fun _ => .null), ((14, 24), fun _ => .null), ((14, 24), fun _ => .null), ((14, 30), fun _ => .null), ((14, 30), fun _ => .null), ((14, 8), fun _ => .null), ((14, 6), fun _ => .null)] _ _ sh mu := c3.rowl (nx := h + 10) rfl 3 14 6 (Nat.le_of_ble_eq_true rfl)
  exact bs_vret dX2_init_39 rfl (by decide) (by decide) ⟨rfl, rfl, c4⟩
set_option maxHeartbeats 4000000 in
set_option maxRecDepth 100000 in
theorem s_X7_init {h nx : Nat} {sh : bs_Sh} {mu : bs_Mm} (hs : sh h = (7, 11)) (hm : mu h = fun _ => .null) (hn : nx = h + 1) : bs_C mX7_init (bs_rm 2 5 803) [.ref h] nx sh mu (fun r nx' sh' mu' => r = none ∧ nx' = h + 6 ∧ bs_cr1 h (7, 11) (bs_li0 [.ref (h + 1), .ref (h + 3), .ref (h + 4), .ref (h + 5), .null, .null, .null, .null, .null, .null, .null]) [((6, 2), bs_li0 [.ref (h + 2), .null]), ((14, 201), fun _ => .null), ((15, 200), fun _ => .null), ((14, 200), fun _ => .null), ((14, 200), fun _ => .null)] sh' mu' sh mu) := by
  subst hn
  refine bs_ct (by decide +kernel) (Nat.le_of_ble_eq_true rfl) ?_
  refine bs_aload_n dX7_init_0 rfl ?_
  refine bs_oinit dX7_init_1 oX7_3 (by decide) (Nat.le_of_ble_eq_true rfl) ?_
  have c0 : bs_cr1 h (7, 11) (bs_li0 [.null, .null, .null, .null, .null, .null, .null, .null, .null, .null, .null]) [] _ _ sh mu := bs_cr1_0 (h := h) (ob := (7, 11)) hs (hm.trans (bs_li0_0 11).symm)
  refine bs_aload_n dX7_init_4 rfl ?_
  refine bs_new dX7_init_5 nX7_9 (by decide) (by decide) ?_
  refine bs_dup dX7_init_8 rfl ?_
  refine bs_callIN dX7_init_9 qX7_11 rfl (s_X6_init (h := h + 1) bs_ns_s bs_nm_s rfl) rfl rfl (Nat.le_of_ble_eq_true rfl) ⟨⟨by decide, by decide⟩, by decide, by decide⟩ (fun v0 nx0 sh0 mu0 hp0 => ?_)
  obtain ⟨rfl, rfl, H0⟩ := hp0
  refine bs_putF dX7_init_12 pX7_12 rfl (by rw [(H0.2.2.2 h (by omega)).1, bs_ns_f (by omega)]; exact (congrArg Prod.fst c0.1)) ?_
  have c1 : bs_cr1 h (7, 11) (bs_li0 [.ref (h + 1), .null, .null, .null, .null, .null, .null, .null, .null, .null, .null]) [((6, 2), bs_li0 [.ref (h + 2), .null]), ((14, 201), fun _ => .null)] _ _ sh mu := (c0.obj (nx := h + 1) rfl H0).putl 0 (.ref (h + 1)) (Nat.le_of_ble_eq_true rfl)
  refine bs_aload_n dX7_init_15 rfl ?_
  refine bs_sipush (v := nI 200) dX7_init_16 (by decide) ?_
  refine bs_newa (ty := .long) (k := 15) (N := 200) (tk := 2) dX7_init_19 w_arr_long rfl (by decide) rfl (by decide) (by decide) (by decide) ?_
  refine bs_putF dX7_init_21 pX7_18 rfl (by rw [bs_ns_f (by omega)]; exact (congrArg Prod.fst c1.1)) ?_
  have c2 : bs_cr1 h (7, 11) (bs_li0 [.ref (h + 1), .ref (h + 3), .null, .null, .null, .null, .null, .null, .null, .null, .null]) [((6, 2), bs_li0 [.ref (h + 2), .null]), ((14, 201), fun _ => .null), ((15, 200), fun _ => .null)] _ _ sh mu := c1.rowl (nx := h + 3) rfl 1 15 200 (Nat.le_of_ble_eq_true rfl)
  refine bs_aload_n dX7_init_24 rfl ?_
  refine bs_sipush (v := nI 200) dX7_init_25 (by decide) ?_
  refine bs_newa (ty := .int) (k := 14) (N := 200) (tk := 1) dX7_init_28 w_arr_int rfl (by decide) rfl (by decide) (by decide) (by decide) ?_
  refine bs_putF dX7_init_30 pX7_22 rfl (by rw [bs_ns_f (by omega)]; exact (congrArg Prod.fst c2.1)) ?_
  have c3 : bs_cr1 h (7, 11) (bs_li0 [.ref (h + 1), .ref (h + 3), .ref (h + 4), .null, .null, .null, .null, .null, .null, .null, .null]) [((6, 2), bs_li0 [.ref (h + 2), .null]), ((14, 201), fun _ => .null), ((15, 200), fun _ => .null), ((14, 200), fun _ => .null)] _ _ sh mu := c2.rowl (nx := h + 4) rfl 2 14 200 (Nat.le_of_ble_eq_true rfl)
  refine bs_aload_n dX7_init_33 rfl ?_
  refine bs_sipush (v := nI 200) dX7_init_34 (by decide) ?_
  refine bs_newa (ty := .int) (k := 14) (N := 200) (tk := 1) dX7_init_37 w_arr_int rfl (by decide) rfl (by decide) (by decide) (by decide) ?_
  refine bs_putF dX7_init_39 pX7_26 rfl (by rw [bs_ns_f (by omega)]; exact (congrArg Prod.fst c3.1)) ?_
  have c4 : bs_cr1 h (7, 11) (bs_li0 [.ref (h + 1), .ref (h + 3), .ref (h + 4), .ref (h + 5), .null, .null, .null, .null, .null, .null, .null]) [((6, 2), bs_li0 [.ref (h + 2), .null]), ((14, 201), fun _ => .null), ((15, 200), fun _ => .null), ((14, 200), fun _ => .null), ((14, 200), fun _ => .null)] _ _ sh mu := c3.rowl (nx := h + 5) rfl 3 14 200 (Nat.le_of_ble_eq_true rfl)
  exact bs_vret dX7_init_42 rfl (by decide) (by decide) ⟨rfl, rfl, c4⟩
set_option maxHeartbeats 4000000 in
set_option maxRecDepth 100000 in
theorem s_X12_init {h nx : Nat} {sh : bs_Sh} {mu : bs_Mm} (hs : sh h = (12, 52)) (hm : mu h = fun _ => .null) (hn : nx = h + 1) : bs_C mX12_init (bs_rm 1 34 11777) [.ref h] nx sh mu (fun r nx' sh' mu' => r = none ∧ nx' = h + 35 ∧ bs_cr1 h (12, 52) (bs_li0 [.null, .ref (h + 1), .ref (h + 2), .ref (h + 3), .ref (h + 4), .null, .ref (h + 5), .null, .null, .null, .null, .ref (h + 6), .ref (h + 7), .ref (h + 8), .ref (h + 9), .ref (h + 10), .ref (h + 11), .ref (h + 12), .ref (h + 13), .ref (h + 14), .null, .ref (h + 15), .ref (h + 16), .null, .null, .null, .ref (h + 17), .ref (h + 18), .ref (h + 19), .ref (h + 20), .ref (h + 21), .null, .null, .null, .ref (h + 22), .ref (h + 23), .ref (h + 24), .ref (h + 25), .ref (h + 26), .ref (h + 27), .ref (h + 28), .ref (h + 29), .ref (h + 30), .ref (h + 31), .ref (h + 32), .null, .null, .int 1, .null, .ref (h + 33), .ref (h + 34), .null]) [((14, 6), fun _ => .null), ((14, 6), fun _ => .null), ((14, 6), fun _ => .null), ((14, 6), fun _ => .null), ((14, 200), fun _ => .null), ((14, 13), fun _ => .null), ((14, 78), fun _ => .null), ((14, 13), fun _ => .null), ((14, 13), fun _ => .null), ((14, 312), fun _ => .null), ((14, 312), fun _ => .null), ((14, 312), fun _ => .null), ((14, 312), fun _ => .null), ((14, 13), fun _ => .null), ((14, 60), fun _ => .null), ((14, 8), fun _ => .null), ((14, 60), fun _ => .null), ((14, 2800), fun _ => .null), ((14, 7), fun _ => .null), ((14, 448), fun _ => .null), ((14, 448), fun _ => .null), ((15, 400), fun _ => .null), ((14, 8), fun _ => .null), ((14, 3600), fun _ => .null), ((14, 1024), fun _ => .null), ((16, 1024), fun _ => .null), ((14, 24), fun _ => .null), ((14, 30), fun _ => .null), ((14, 30), fun _ => .null), ((14, 30), fun _ => .null), ((14, 120), fun _ => .null), ((14, 6), fun _ => .null), ((14, 24), fun _ => .null), ((14, 24), fun _ => .null)] sh' mu' sh mu) := by
  subst hn
  refine bs_ct (by decide +kernel) (Nat.le_of_ble_eq_true rfl) ?_
  refine bs_aload_n dX12_init_0 rfl ?_
  refine bs_oinit dX12_init_1 oX12_1 (by decide) (Nat.le_of_ble_eq_true rfl) ?_
  have c0 : bs_cr1 h (12, 52) (bs_li0 [.null, .null, .null, .null, .null, .null, .null, .null, .null, .null, .null, .null, .null, .null, .null, .null, .null, .null, .null, .null, .null, .null, .null, .null, .null, .null, .null, .null, .null, .null, .null, .null, .null, .null, .null, .null, .null, .null, .null, .null, .null, .null, .null, .null, .null, .null, .null, .null, .null, .null, .null, .null]) [] _ _ sh mu := bs_cr1_0 (h := h) (ob := (12, 52)) hs (hm.trans (bs_li0_0 52).symm)
  refine bs_aload_n dX12_init_4 rfl ?_
  refine bs_bipush (v := nI 6) dX12_init_5 (by decide) ?_
  refine bs_newa (ty := .int) (k := 14) (N := 6) (tk := 1) dX12_init_7 w_arr_int rfl (by decide) rfl (by decide) (by decide) (by decide) ?_
  refine bs_putF dX12_init_9 pX12_9 rfl (by rw [bs_ns_f (by omega)]; exact (congrArg Prod.fst c0.1)) ?_
  have c1 : bs_cr1 h (12, 52) (bs_li0 [.null, .ref (h + 1), .null, .null, .null, .null, .null, .null, .null, .null, .null, .null, .null, .null, .null, .null, .null, .null, .null, .null, .null, .null, .null, .null, .null, .null, .null, .null, .null, .null, .null, .null, .null, .null, .null, .null, .null, .null, .null, .null, .null, .null, .null, .null, .null, .null, .null, .null, .null, .null, .null, .null]) [((14, 6), fun _ => .null)] _ _ sh mu := c0.rowl (nx := h + 1) rfl 1 14 6 (Nat.le_of_ble_eq_true rfl)
  refine bs_aload_n dX12_init_12 rfl ?_
  refine bs_bipush (v := nI 6) dX12_init_13 (by decide) ?_
  refine bs_newa (ty := .int) (k := 14) (N := 6) (tk := 1) dX12_init_15 w_arr_int rfl (by decide) rfl (by decide) (by decide) (by decide) ?_
  refine bs_putF dX12_init_17 pX12_13 rfl (by rw [bs_ns_f (by omega)]; exact (congrArg Prod.fst c1.1)) ?_
  have c2 : bs_cr1 h (12, 52) (bs_li0 [.null, .ref (h + 1), .ref (h + 2), .null, .null, .null, .null, .null, .null, .null, .null, .null, .null, .null, .null, .null, .null, .null, .null, .null, .null, .null, .null, .null, .null, .null, .null, .null, .null, .null, .null, .null, .null, .null, .null, .null, .null, .null, .null, .null, .null, .null, .null, .null, .null, .null, .null, .null, .null, .null, .null, .null]) [((14, 6), fun _ => .null), ((14, 6), fun _ => .null)] _ _ sh mu := c1.rowl (nx := h + 2) rfl 2 14 6 (Nat.le_of_ble_eq_true rfl)
  refine bs_aload_n dX12_init_20 rfl ?_
  refine bs_bipush (v := nI 6) dX12_init_21 (by decide) ?_
  refine bs_newa (ty := .int) (k := 14) (N := 6) (tk := 1) dX12_init_23 w_arr_int rfl (by decide) rfl (by decide) (by decide) (by decide) ?_
  refine bs_putF dX12_init_25 pX12_16 rfl (by rw [bs_ns_f (by omega)]; exact (congrArg Prod.fst c2.1)) ?_
  have c3 : bs_cr1 h (12, 52) (bs_li0 [.null, .ref (h + 1), .ref (h + 2), .ref (h + 3), .null, .null, .null, .null, .null, .null, .null, .null, .null, .null, .null, .null, .null, .null, .null, .null, .null, .null, .null, .null, .null, .null, .null, .null, .null, .null, .null, .null, .null, .null, .null, .null, .null, .null, .null, .null, .null, .null, .null, .null, .null, .null, .null, .null, .null, .null, .null, .null]) [((14, 6), fun _ => .null), ((14, 6), fun _ => .null), ((14, 6), fun _ => .null)] _ _ sh mu := c2.rowl (nx := h + 3) rfl 3 14 6 (Nat.le_of_ble_eq_true rfl)
  refine bs_aload_n dX12_init_28 rfl ?_
  refine bs_bipush (v := nI 6) dX12_init_29 (by decide) ?_
  refine bs_newa (ty := .int) (k := 14) (N := 6) (tk := 1) dX12_init_31 w_arr_int rfl (by decide) rfl (by decide) (by decide) (by decide) ?_
  refine bs_putF dX12_init_33 pX12_19 rfl (by rw [bs_ns_f (by omega)]; exact (congrArg Prod.fst c3.1)) ?_
  have c4 : bs_cr1 h (12, 52) (bs_li0 [.null, .ref (h + 1), .ref (h + 2), .ref (h + 3), .ref (h + 4), .null, .null, .null, .null, .null, .null, .null, .null, .null, .null, .null, .null, .null, .null, .null, .null, .null, .null, .null, .null, .null, .null, .null, .null, .null, .null, .null, .null, .null, .null, .null, .null, .null, .null, .null, .null, .null, .null, .null, .null, .null, .null, .null, .null, .null, .null, .null]) [((14, 6), fun _ => .null), ((14, 6), fun _ => .null), ((14, 6), fun _ => .null), ((14, 6), fun _ => .null)] _ _ sh mu := c3.rowl (nx := h + 4) rfl 4 14 6 (Nat.le_of_ble_eq_true rfl)
  refine bs_aload_n dX12_init_36 rfl ?_
  refine bs_sipush (v := nI 200) dX12_init_37 (by decide) ?_
  refine bs_newa (ty := .int) (k := 14) (N := 200) (tk := 1) dX12_init_40 w_arr_int rfl (by decide) rfl (by decide) (by decide) (by decide) ?_
  refine bs_putF dX12_init_42 pX12_22 rfl (by rw [bs_ns_f (by omega)]; exact (congrArg Prod.fst c4.1)) ?_
  have c5 : bs_cr1 h (12, 52) (bs_li0 [.null, .ref (h + 1), .ref (h + 2), .ref (h + 3), .ref (h + 4), .null, .ref (h + 5), .null, .null, .null, .null, .null, .null, .null, .null, .null, .null, .null, .null, .null, .null, .null, .null, .null, .null, .null, .null, .null, .null, .null, .null, .null, .null, .null, .null, .null, .null, .null, .null, .null, .null, .null, .null, .null, .null, .null, .null, .null, .null, .null, .null, .null]) [((14, 6), fun _ => .null), ((14, 6), fun _ => .null), ((14, 6), fun _ => .null), ((14, 6), fun _ => .null), ((14, 200), fun _ => .null)] _ _ sh mu := c4.rowl (nx := h + 5) rfl 6 14 200 (Nat.le_of_ble_eq_true rfl)
  refine bs_aload_n dX12_init_45 rfl ?_
  refine bs_bipush (v := nI 13) dX12_init_46 (by decide) ?_
  refine bs_newa (ty := .int) (k := 14) (N := 13) (tk := 1) dX12_init_48 w_arr_int rfl (by decide) rfl (by decide) (by decide) (by decide) ?_
  refine bs_putF dX12_init_50 pX12_25 rfl (by rw [bs_ns_f (by omega)]; exact (congrArg Prod.fst c5.1)) ?_
  have c6 : bs_cr1 h (12, 52) (bs_li0 [.null, .ref (h + 1), .ref (h + 2), .ref (h + 3), .ref (h + 4), .null, .ref (h + 5), .null, .null, .null, .null, .ref (h + 6), .null, .null, .null, .null, .null, .null, .null, .null, .null, .null, .null, .null, .null, .null, .null, .null, .null, .null, .null, .null, .null, .null, .null, .null, .null, .null, .null, .null, .null, .null, .null, .null, .null, .null, .null, .null, .null, .null, .null, .null]) [((14, 6), fun _ => .null), ((14, 6), fun _ => .null), ((14, 6), fun _ => .null), ((14, 6), fun _ => .null), ((14, 200), fun _ => .null), ((14, 13), fun _ => .null)] _ _ sh mu := c5.rowl (nx := h + 6) rfl 11 14 13 (Nat.le_of_ble_eq_true rfl)
  refine bs_aload_n dX12_init_53 rfl ?_
  refine bs_bipush (v := nI 78) dX12_init_54 (by decide) ?_
  refine bs_newa (ty := .int) (k := 14) (N := 78) (tk := 1) dX12_init_56 w_arr_int rfl (by decide) rfl (by decide) (by decide) (by decide) ?_
  refine bs_putF dX12_init_58 pX12_28 rfl (by rw [bs_ns_f (by omega)]; exact (congrArg Prod.fst c6.1)) ?_
  have c7 : bs_cr1 h (12, 52) (bs_li0 [.null, .ref (h + 1), .ref (h + 2), .ref (h + 3), .ref (h + 4), .null, .ref (h + 5), .null, .null, .null, .null, .ref (h + 6), .ref (h + 7), .null, .null, .null, .null, .null, .null, .null, .null, .null, .null, .null, .null, .null, .null, .null, .null, .null, .null, .null, .null, .null, .null, .null, .null, .null, .null, .null, .null, .null, .null, .null, .null, .null, .null, .null, .null, .null, .null, .null]) [((14, 6), fun _ => .null), ((14, 6), fun _ => .null), ((14, 6), fun _ => .null), ((14, 6), fun _ => .null), ((14, 200), fun _ => .null), ((14, 13), fun _ => .null), ((14, 78), fun _ => .null)] _ _ sh mu := c6.rowl (nx := h + 7) rfl 12 14 78 (Nat.le_of_ble_eq_true rfl)
  refine bs_aload_n dX12_init_61 rfl ?_
  refine bs_bipush (v := nI 13) dX12_init_62 (by decide) ?_
  refine bs_newa (ty := .int) (k := 14) (N := 13) (tk := 1) dX12_init_64 w_arr_int rfl (by decide) rfl (by decide) (by decide) (by decide) ?_
  refine bs_putF dX12_init_66 pX12_31 rfl (by rw [bs_ns_f (by omega)]; exact (congrArg Prod.fst c7.1)) ?_
  have c8 : bs_cr1 h (12, 52) (bs_li0 [.null, .ref (h + 1), .ref (h + 2), .ref (h + 3), .ref (h + 4), .null, .ref (h + 5), .null, .null, .null, .null, .ref (h + 6), .ref (h + 7), .ref (h + 8), .null, .null, .null, .null, .null, .null, .null, .null, .null, .null, .null, .null, .null, .null, .null, .null, .null, .null, .null, .null, .null, .null, .null, .null, .null, .null, .null, .null, .null, .null, .null, .null, .null, .null, .null, .null, .null, .null]) [((14, 6), fun _ => .null), ((14, 6), fun _ => .null), ((14, 6), fun _ => .null), ((14, 6), fun _ => .null), ((14, 200), fun _ => .null), ((14, 13), fun _ => .null), ((14, 78), fun _ => .null), ((14, 13), fun _ => .null)] _ _ sh mu := c7.rowl (nx := h + 8) rfl 13 14 13 (Nat.le_of_ble_eq_true rfl)
  refine bs_aload_n dX12_init_69 rfl ?_
  refine bs_bipush (v := nI 13) dX12_init_70 (by decide) ?_
  refine bs_newa (ty := .int) (k := 14) (N := 13) (tk := 1) dX12_init_72 w_arr_int rfl (by decide) rfl (by decide) (by decide) (by decide) ?_
  refine bs_putF dX12_init_74 pX12_34 rfl (by rw [bs_ns_f (by omega)]; exact (congrArg Prod.fst c8.1)) ?_
  have c9 : bs_cr1 h (12, 52) (bs_li0 [.null, .ref (h + 1), .ref (h + 2), .ref (h + 3), .ref (h + 4), .null, .ref (h + 5), .null, .null, .null, .null, .ref (h + 6), .ref (h + 7), .ref (h + 8), .ref (h + 9), .null, .null, .null, .null, .null, .null, .null, .null, .null, .null, .null, .null, .null, .null, .null, .null, .null, .null, .null, .null, .null, .null, .null, .null, .null, .null, .null, .null, .null, .null, .null, .null, .null, .null, .null, .null, .null]) [((14, 6), fun _ => .null), ((14, 6), fun _ => .null), ((14, 6), fun _ => .null), ((14, 6), fun _ => .null), ((14, 200), fun _ => .null), ((14, 13), fun _ => .null), ((14, 78), fun _ => .null), ((14, 13), fun _ => .null), ((14, 13), fun _ => .null)] _ _ sh mu := c8.rowl (nx := h + 9) rfl 14 14 13 (Nat.le_of_ble_eq_true rfl)
  refine bs_aload_n dX12_init_77 rfl ?_
  refine bs_sipush (v := nI 312) dX12_init_78 (by decide) ?_
  refine bs_newa (ty := .int) (k := 14) (N := 312) (tk := 1) dX12_init_81 w_arr_int rfl (by decide) rfl (by decide) (by decide) (by decide) ?_
  refine bs_putF dX12_init_83 pX12_37 rfl (by rw [bs_ns_f (by omega)]; exact (congrArg Prod.fst c9.1)) ?_
  have c10 : bs_cr1 h (12, 52) (bs_li0 [.null, .ref (h + 1), .ref (h + 2), .ref (h + 3), .ref (h + 4), .null, .ref (h + 5), .null, .null, .null, .null, .ref (h + 6), .ref (h + 7), .ref (h + 8), .ref (h + 9), .ref (h + 10), .null, .null, .null, .null, .null, .null, .null, .null, .null, .null, .null, .null, .null, .null, .null, .null, .null, .null, .null, .null, .null, .null, .null, .null, .null, .null, .null, .null, .null, .null, .null, .null, .null, .null, .null, .null]) [((14, 6), fun _ => .null), ((14, 6), fun _ => .null), ((14, 6), fun _ => .null), ((14, 6), fun _ => .null), ((14, 200), fun _ => .null), ((14, 13), fun _ => .null), ((14, 78), fun _ => .null), ((14, 13), fun _ => .null), ((14, 13), fun _ => .null), ((14, 312), fun _ => .null)] _ _ sh mu := c9.rowl (nx := h + 10) rfl 15 14 312 (Nat.le_of_ble_eq_true rfl)
  refine bs_aload_n dX12_init_86 rfl ?_
  refine bs_sipush (v := nI 312) dX12_init_87 (by decide) ?_
  refine bs_newa (ty := .int) (k := 14) (N := 312) (tk := 1) dX12_init_90 w_arr_int rfl (by decide) rfl (by decide) (by decide) (by decide) ?_
  refine bs_putF dX12_init_92 pX12_40 rfl (by rw [bs_ns_f (by omega)]; exact (congrArg Prod.fst c10.1)) ?_
  have c11 : bs_cr1 h (12, 52) (bs_li0 [.null, .ref (h + 1), .ref (h + 2), .ref (h + 3), .ref (h + 4), .null, .ref (h + 5), .null, .null, .null, .null, .ref (h + 6), .ref (h + 7), .ref (h + 8), .ref (h + 9), .ref (h + 10), .ref (h + 11), .null, .null, .null, .null, .null, .null, .null, .null, .null, .null, .null, .null, .null, .null, .null, .null, .null, .null, .null, .null, .null, .null, .null, .null, .null, .null, .null, .null, .null, .null, .null, .null, .null, .null, .null]) [((14, 6), fun _ => .null), ((14, 6), fun _ => .null), ((14, 6), fun _ => .null), ((14, 6), fun _ => .null), ((14, 200), fun _ => .null), ((14, 13), fun _ => .null), ((14, 78), fun _ => .null), ((14, 13), fun _ => .null), ((14, 13), fun _ => .null), ((14, 312), fun _ => .null), ((14, 312), fun _ => .null)] _ _ sh mu := c10.rowl (nx := h + 11) rfl 16 14 312 (Nat.le_of_ble_eq_true rfl)
  refine bs_aload_n dX12_init_95 rfl ?_
  refine bs_sipush (v := nI 312) dX12_init_96 (by decide) ?_
  refine bs_newa (ty := .int) (k := 14) (N := 312) (tk := 1) dX12_init_99 w_arr_int rfl (by decide) rfl (by decide) (by decide) (by decide) ?_
  refine bs_putF dX12_init_101 pX12_43 rfl (by rw [bs_ns_f (by omega)]; exact (congrArg Prod.fst c11.1)) ?_
  have c12 : bs_cr1 h (12, 52) (bs_li0 [.null, .ref (h + 1), .ref (h + 2), .ref (h + 3), .ref (h + 4), .null, .ref (h + 5), .null, .null, .null, .null, .ref (h + 6), .ref (h + 7), .ref (h + 8), .ref (h + 9), .ref (h + 10), .ref (h + 11), .ref (h + 12), .null, .null, .null, .null, .null, .null, .null, .null, .null, .null, .null, .null, .null, .null, .null, .null, .null, .null, .null, .null, .null, .null, .null, .null, .null, .null, .null, .null, .null, .null, .null, .null, .null, .null]) [((14, 6), fun _ => .null), ((14, 6), fun _ => .null), ((14, 6), fun _ => .null), ((14, 6), fun _ => .null), ((14, 200), fun _ => .null), ((14, 13), fun _ => .null), ((14, 78), fun _ => .null), ((14, 13), fun _ => .null), ((14, 13), fun _ => .null), ((14, 312), fun _ => .null), ((14, 312), fun _ => .null), ((14, 312), fun _ => .null)] _ _ sh mu := c11.rowl (nx := h + 12) rfl 17 14 312 (Nat.le_of_ble_eq_true rfl)
  refine bs_aload_n dX12_init_104 rfl ?_
  refine bs_sipush (v := nI 312) dX12_init_105 (by decide) ?_
  refine bs_newa (ty := .int) (k := 14) (N := 312) (tk := 1) dX12_init_108 w_arr_int rfl (by decide) rfl (by decide) (by decide) (by decide) ?_
  refine bs_putF dX12_init_110 pX12_46 rfl (by rw [bs_ns_f (by omega)]; exact (congrArg Prod.fst c12.1)) ?_
  have c13 : bs_cr1 h (12, 52) (bs_li0 [.null, .ref (h + 1), .ref (h + 2), .ref (h + 3), .ref (h + 4), .null, .ref (h + 5), .null, .null, .null, .null, .ref (h + 6), .ref (h + 7), .ref (h + 8), .ref (h + 9), .ref (h + 10), .ref (h + 11), .ref (h + 12), .ref (h + 13), .null, .null, .null, .null, .null, .null, .null, .null, .null, .null, .null, .null, .null, .null, .null, .null, .null, .null, .null, .null, .null, .null, .null, .null, .null, .null, .null, .null, .null, .null, .null, .null, .null]) [((14, 6), fun _ => .null), ((14, 6), fun _ => .null), ((14, 6), fun _ => .null), ((14, 6), fun _ => .null), ((14, 200), fun _ => .null), ((14, 13), fun _ => .null), ((14, 78), fun _ => .null), ((14, 13), fun _ => .null), ((14, 13), fun _ => .null), ((14, 312), fun _ => .null), ((14, 312), fun _ => .null), ((14, 312), fun _ => .null), ((14, 312), fun _ => .null)] _ _ sh mu := c12.rowl (nx := h + 13) rfl 18 14 312 (Nat.le_of_ble_eq_true rfl)
  refine bs_aload_n dX12_init_113 rfl ?_
  refine bs_bipush (v := nI 13) dX12_init_114 (by decide) ?_
  refine bs_newa (ty := .int) (k := 14) (N := 13) (tk := 1) dX12_init_116 w_arr_int rfl (by decide) rfl (by decide) (by decide) (by decide) ?_
  refine bs_putF dX12_init_118 pX12_49 rfl (by rw [bs_ns_f (by omega)]; exact (congrArg Prod.fst c13.1)) ?_
  have c14 : bs_cr1 h (12, 52) (bs_li0 [.null, .ref (h + 1), .ref (h + 2), .ref (h + 3), .ref (h + 4), .null, .ref (h + 5), .null, .null, .null, .null, .ref (h + 6), .ref (h + 7), .ref (h + 8), .ref (h + 9), .ref (h + 10), .ref (h + 11), .ref (h + 12), .ref (h + 13), .ref (h + 14), .null, .null, .null, .null, .null, .null, .null, .null, .null, .null, .null, .null, .null, .null, .null, .null, .null, .null, .null, .null, .null, .null, .null, .null, .null, .null, .null, .null, .null, .null, .null, .null]) [((14, 6), fun _ => .null), ((14, 6), fun _ => .null), ((14, 6), fun _ => .null), ((14, 6), fun _ => .null), ((14, 200), fun _ => .null), ((14, 13), fun _ => .null), ((14, 78), fun _ => .null), ((14, 13), fun _ => .null), ((14, 13), fun _ => .null), ((14, 312), fun _ => .null), ((14, 312), fun _ => .null), ((14, 312), fun _ => .null), ((14, 312), fun _ => .null), ((14, 13), fun _ => .null)] _ _ sh mu := c13.rowl (nx := h + 14) rfl 19 14 13 (Nat.le_of_ble_eq_true rfl)
  refine bs_aload_n dX12_init_121 rfl ?_
  refine bs_bipush (v := nI 60) dX12_init_122 (by decide) ?_
  refine bs_newa (ty := .int) (k := 14) (N := 60) (tk := 1) dX12_init_124 w_arr_int rfl (by decide) rfl (by decide) (by decide) (by decide) ?_
  refine bs_putF dX12_init_126 pX12_52 rfl (by rw [bs_ns_f (by omega)]; exact (congrArg Prod.fst c14.1)) ?_
  have c15 : bs_cr1 h (12, 52) (bs_li0 [.null, .ref (h + 1), .ref (h + 2), .ref (h + 3), .ref (h + 4), .null, .ref (h + 5), .null, .null, .null, .null, .ref (h + 6), .ref (h + 7), .ref (h + 8), .ref (h + 9), .ref (h + 10), .ref (h + 11), .ref (h + 12), .ref (h + 13), .ref (h + 14), .null, .ref (h + 15), .null, .null, .null, .null, .null, .null, .null, .null, .null, .null, .null, .null, .null, .null, .null, .null, .null, .null, .null, .null, .null, .null, .null, .null, .null, .null, .null, .null, .null, .null]) [((14, 6), fun _ => .null), ((14, 6), fun _ => .null), ((14, 6), fun _ => .null), ((14, 6), fun _ => .null), ((14, 200), fun _ => .null), ((14, 13), fun _ => .null), ((14, 78), fun _ => .null), ((14, 13), fun _ => .null), ((14, 13), fun _ => .null), ((14, 312), fun _ => .null), ((14, 312), fun _ => .null), ((14, 312), fun _ => .null), ((14, 312), fun _ => .null), ((14, 13), fun _ => .null), ((14, 60), fun _ => .null)] _ _ sh mu := c14.rowl (nx := h + 15) rfl 21 14 60 (Nat.le_of_ble_eq_true rfl)
  refine bs_aload_n dX12_init_129 rfl ?_
  refine bs_bipush (v := nI 8) dX12_init_130 (by decide) ?_
  refine bs_newa (ty := .int) (k := 14) (N := 8) (tk := 1) dX12_init_132 w_arr_int rfl (by decide) rfl (by decide) (by decide) (by decide) ?_
  refine bs_putF dX12_init_134 pX12_55 rfl (by rw [bs_ns_f (by omega)]; exact (congrArg Prod.fst c15.1)) ?_
  have c16 : bs_cr1 h (12, 52) (bs_li0 [.null, .ref (h + 1), .ref (h + 2), .ref (h + 3), .ref (h + 4), .null, .ref (h + 5), .null, .null, .null, .null, .ref (h + 6), .ref (h + 7), .ref (h + 8), .ref (h + 9), .ref (h + 10), .ref (h + 11), .ref (h + 12), .ref (h + 13), .ref (h + 14), .null, .ref (h + 15), .ref (h + 16), .null, .null, .null, .null, .null, .null, .null, .null, .null, .null, .null, .null, .null, .null, .null, .null, .null, .null, .null, .null, .null, .null, .null, .null, .null, .null, .null, .null, .null]) [((14, 6), fun _ => .null), ((14, 6), fun _ => .null), ((14, 6), fun _ => .null), ((14, 6), fun _ => .null), ((14, 200), fun _ => .null), ((14, 13), fun _ => .null), ((14, 78), fun _ => .null), ((14, 13), fun _ => .null), ((14, 13), fun _ => .null), ((14, 312), fun _ => .null), ((14, 312), fun _ => .null), ((14, 312), fun _ => .null), ((14, 312), fun _ => .null), ((14, 13), fun _ => .null), ((14, 60), fun _ => .null), ((14, 8), fun _ => .null)] _ _ sh mu := c15.rowl (nx := h + 16) rfl 22 14 8 (Nat.le_of_ble_eq_true rfl)
  refine bs_aload_n dX12_init_137 rfl ?_
  refine bs_bipush (v := nI 60) dX12_init_138 (by decide) ?_
  refine bs_newa (ty := .int) (k := 14) (N := 60) (tk := 1) dX12_init_140 w_arr_int rfl (by decide) rfl (by decide) (by decide) (by decide) ?_
  refine bs_putF dX12_init_142 pX12_58 rfl (by rw [bs_ns_f (by omega)]; exact (congrArg Prod.fst c16.1)) ?_
  have c17 : bs_cr1 h (12, 52) (bs_li0 [.null, .ref (h + 1), .ref (h + 2), .ref (h + 3), .ref (h + 4), .null, .ref (h + 5), .null, .null, .null, .null, .ref (h + 6), .ref (h + 7), .ref (h + 8), .ref (h + 9), .ref (h + 10), .ref (h + 11), .ref (h + 12), .ref (h + 13), .ref (h + 14), .null, .ref (h + 15), .ref (h + 16), .null, .null, .null, .ref (h + 17), .null, .null, .null, .null, .null, .null, .null, .null, .null, .null, .null, .null, .null, .null, .null, .null, .null, .null, .null, .null, .null, .null, .null, .null, .null]) [((14, 6), fun _ => .null), ((14, 6), fun _ => .null), ((14, 6), fun _ => .null), ((14, 6), fun _ => .null), ((14, 200), fun _ => .null), ((14, 13), fun _ => .null), ((14, 78), fun _ => .null), ((14, 13), fun _ => .null), ((14, 13), fun _ => .null), ((14, 312), fun _ => .null), ((14, 312), fun _ => .null), ((14, 312), fun _ => .null), ((14, 312), fun _ => .null), ((14, 13), fun _ => .null), ((14, 60), fun _ => .null), ((14, 8), fun _ => .null), ((14, 60), fun _ => .null)] _ _ sh mu := c16.rowl (nx := h + 17) rfl 26 14 60 (Nat.le_of_ble_eq_true rfl)
  refine bs_aload_n dX12_init_145 rfl ?_
  refine bs_sipush (v := nI 2800) dX12_init_146 (by decide) ?_
  refine bs_newa (ty := .int) (k := 14) (N := 2800) (tk := 1) dX12_init_149 w_arr_int rfl (by decide) rfl (by decide) (by decide) (by decide) ?_
  refine bs_putF dX12_init_151 pX12_61 rfl (by rw [bs_ns_f (by omega)]; exact (congrArg Prod.fst c17.1)) ?_
  have c18 : bs_cr1 h (12, 52) (bs_li0 [.null, .ref (h + 1), .ref (h + 2), .ref (h + 3), .ref (h + 4), .null, .ref (h + 5), .null, .null, .null, .null, .ref (h + 6), .ref (h + 7), .ref (h + 8), .ref (h + 9), .ref (h + 10), .ref (h + 11), .ref (h + 12), .ref (h + 13), .ref (h + 14), .null, .ref (h + 15), .ref (h + 16), .null, .null, .null, .ref (h + 17), .ref (h + 18), .null, .null, .null, .null, .null, .null, .null, .null, .null, .null, .null, .null, .null, .null, .null, .null, .null, .null, .null, .null, .null, .null, .null, .null]) [((14, 6), fun _ => .null), ((14, 6), fun _ => .null), ((14, 6), fun _ => .null), ((14, 6), fun _ => .null), ((14, 200), fun _ => .null), ((14, 13), fun _ => .null), ((14, 78), fun _ => .null), ((14, 13), fun _ => .null), ((14, 13), fun _ => .null), ((14, 312), fun _ => .null), ((14, 312), fun _ => .null), ((14, 312), fun _ => .null), ((14, 312), fun _ => .null), ((14, 13), fun _ => .null), ((14, 60), fun _ => .null), ((14, 8), fun _ => .null), ((14, 60), fun _ => .null), ((14, 2800), fun _ => .null)] _ _ sh mu := c17.rowl (nx := h + 18) rfl 27 14 2800 (Nat.le_of_ble_eq_true rfl)
  refine bs_aload_n dX12_init_154 rfl ?_
  refine bs_bipush (v := nI 7) dX12_init_155 (by decide) ?_
  refine bs_newa (ty := .int) (k := 14) (N := 7) (tk := 1) dX12_init_157 w_arr_int rfl (by decide) rfl (by decide) (by decide) (by decide) ?_
  refine bs_putF dX12_init_159 pX12_64 rfl (by rw [bs_ns_f (by omega)]; exact (congrArg Prod.fst c18.1)) ?_
  have c19 : bs_cr1 h (12, 52) (bs_li0 [.null, .ref (h + 1), .ref (h + 2), .ref (h + 3), .ref (h + 4), .null, .ref (h + 5), .null, .null, .null, .null, .ref (h + 6), .ref (h + 7), .ref (h + 8), .ref (h + 9), .ref (h + 10), .ref (h + 11), .ref (h + 12), .ref (h + 13), .ref (h + 14), .null, .ref (h + 15), .ref (h + 16), .null, .null, .null, .ref (h + 17), .ref (h + 18), .ref (h + 19), .null, .null, .null, .null, .null, .null, .null, .null, .null, .null, .null, .null, .null, .null, .null, .null, .null, .null, .null, .null, .null, .null, .null]) [((14, 6), fun _ => .null), ((14, 6), fun _ => .null), ((14, 6), fun _ => .null), ((14, 6), fun _ => .null), ((14, 200), fun _ => .null), ((14, 13), fun _ => .null), ((14, 78), fun _ => .null), ((14, 13), fun _ => .null), ((14, 13), fun _ => .null), ((14, 312), fun _ => .null), ((14, 312), fun _ => .null), ((14, 312), fun _ => .null), ((14, 312), fun _ => .null), ((14, 13), fun _ => .null), ((14, 60), fun _ => .null), ((14, 8), fun _ => .null), ((14, 60), fun _ => .null), ((14, 2800), fun _ => .null), ((14, 7), fun _ => .null)] _ _ sh mu := c18.rowl (nx := h + 19) rfl 28 14 7 (Nat.le_of_ble_eq_true rfl)
  refine bs_aload_n dX12_init_162 rfl ?_
  refine bs_sipush (v := nI 448) dX12_init_163 (by decide) ?_
  refine bs_newa (ty := .int) (k := 14) (N := 448) (tk := 1) dX12_init_166 w_arr_int rfl (by decide) rfl (by decide) (by decide) (by decide) ?_
  refine bs_putF dX12_init_168 pX12_67 rfl (by rw [bs_ns_f (by omega)]; exact (congrArg Prod.fst c19.1)) ?_
  have c20 : bs_cr1 h (12, 52) (bs_li0 [.null, .ref (h + 1), .ref (h + 2), .ref (h + 3), .ref (h + 4), .null, .ref (h + 5), .null, .null, .null, .null, .ref (h + 6), .ref (h + 7), .ref (h + 8), .ref (h + 9), .ref (h + 10), .ref (h + 11), .ref (h + 12), .ref (h + 13), .ref (h + 14), .null, .ref (h + 15), .ref (h + 16), .null, .null, .null, .ref (h + 17), .ref (h + 18), .ref (h + 19), .ref (h + 20), .null, .null, .null, .null, .null, .null, .null, .null, .null, .null, .null, .null, .null, .null, .null, .null, .null, .null, .null, .null, .null, .null]) [((14, 6), fun _ => .null), ((14, 6), fun _ => .null), ((14, 6), fun _ => .null), ((14, 6), fun _ => .null), ((14, 200), fun _ => .null), ((14, 13), fun _ => .null), ((14, 78), fun _ => .null), ((14, 13), fun _ => .null), ((14, 13), fun _ => .null), ((14, 312), fun _ => .null), ((14, 312), fun _ => .null), ((14, 312), fun _ => .null), ((14, 312), fun _ => .null), ((14, 13), fun _ => .null), ((14, 60), fun _ => .null), ((14, 8), fun _ => .null), ((14, 60), fun _ => .null), ((14, 2800), fun _ => .null), ((14, 7), fun _ => .null), ((14, 448), fun _ => .null)] _ _ sh mu := c19.rowl (nx := h + 20) rfl 29 14 448 (Nat.le_of_ble_eq_true rfl)
  refine bs_aload_n dX12_init_171 rfl ?_
  refine bs_sipush (v := nI 448) dX12_init_172 (by decide) ?_
  refine bs_newa (ty := .int) (k := 14) (N := 448) (tk := 1) dX12_init_175 w_arr_int rfl (by decide) rfl (by decide) (by decide) (by decide) ?_
  refine bs_putF dX12_init_177 pX12_70 rfl (by rw [bs_ns_f (by omega)]; exact (congrArg Prod.fst c20.1)) ?_
  have c21 : bs_cr1 h (12, 52) (bs_li0 [.null, .ref (h + 1), .ref (h + 2), .ref (h + 3), .ref (h + 4), .null, .ref (h + 5), .null, .null, .null, .null, .ref (h + 6), .ref (h + 7), .ref (h + 8), .ref (h + 9), .ref (h + 10), .ref (h + 11), .ref (h + 12), .ref (h + 13), .ref (h + 14), .null, .ref (h + 15), .ref (h + 16), .null, .null, .null, .ref (h + 17), .ref (h + 18), .ref (h + 19), .ref (h + 20), .ref (h + 21), .null, .null, .null, .null, .null, .null, .null, .null, .null, .null, .null, .null, .null, .null, .null, .null, .null, .null, .null, .null, .null]) [((14, 6), fun _ => .null), ((14, 6), fun _ => .null), ((14, 6), fun _ => .null), ((14, 6), fun _ => .null), ((14, 200), fun _ => .null), ((14, 13), fun _ => .null), ((14, 78), fun _ => .null), ((14, 13), fun _ => .null), ((14, 13), fun _ => .null), ((14, 312), fun _ => .null), ((14, 312), fun _ => .null), ((14, 312), fun _ => .null), ((14, 312), fun _ => .null), ((14, 13), fun _ => .null), ((14, 60), fun _ => .null), ((14, 8), fun _ => .null), ((14, 60), fun _ => .null), ((14, 2800), fun _ => .null), ((14, 7), fun _ => .null), ((14, 448), fun _ => .null), ((14, 448), fun _ => .null)] _ _ sh mu := c20.rowl (nx := h + 21) rfl 30 14 448 (Nat.le_of_ble_eq_true rfl)
  refine bs_aload_n dX12_init_180 rfl ?_
  refine bs_sipush (v := nI 400) dX12_init_181 (by decide) ?_
  refine bs_newa (ty := .long) (k := 15) (N := 400) (tk := 2) dX12_init_184 w_arr_long rfl (by decide) rfl (by decide) (by decide) (by decide) ?_
  refine bs_putF dX12_init_186 pX12_73 rfl (by rw [bs_ns_f (by omega)]; exact (congrArg Prod.fst c21.1)) ?_
  have c22 : bs_cr1 h (12, 52) (bs_li0 [.null, .ref (h + 1), .ref (h + 2), .ref (h + 3), .ref (h + 4), .null, .ref (h + 5), .null, .null, .null, .null, .ref (h + 6), .ref (h + 7), .ref (h + 8), .ref (h + 9), .ref (h + 10), .ref (h + 11), .ref (h + 12), .ref (h + 13), .ref (h + 14), .null, .ref (h + 15), .ref (h + 16), .null, .null, .null, .ref (h + 17), .ref (h + 18), .ref (h + 19), .ref (h + 20), .ref (h + 21), .null, .null, .null, .ref (h + 22), .null, .null, .null, .null, .null, .null, .null, .null, .null, .null, .null, .null, .null, .null, .null, .null, .null]) [((14, 6), fun _ => .null), ((14, 6), fun _ => .null), ((14, 6), fun _ => .null), ((14, 6), fun _ => .null), ((14, 200), fun _ => .null), ((14, 13), fun _ => .null), ((14, 78), fun _ => .null), ((14, 13), fun _ => .null), ((14, 13), fun _ => .null), ((14, 312), fun _ => .null), ((14, 312), fun _ => .null), ((14, 312), fun _ => .null), ((14, 312), fun _ => .null), ((14, 13), fun _ => .null), ((14, 60), fun _ => .null), ((14, 8), fun _ => .null), ((14, 60), fun _ => .null), ((14, 2800), fun _ => .null), ((14, 7), fun _ => .null), ((14, 448), fun _ => .null), ((14, 448), fun _ => .null), ((15, 400), fun _ => .null)] _ _ sh mu := c21.rowl (nx := h + 22) rfl 34 15 400 (Nat.le_of_ble_eq_true rfl)
  refine bs_aload_n dX12_init_189 rfl ?_
  refine bs_bipush (v := nI 8) dX12_init_190 (by decide) ?_
  refine bs_newa (ty := .int) (k := 14) (N := 8) (tk := 1) dX12_init_192 w_arr_int rfl (by decide) rfl (by decide) (by decide) (by decide) ?_
  refine bs_putF dX12_init_194 pX12_77 rfl (by rw [bs_ns_f (by omega)]; exact (congrArg Prod.fst c22.1)) ?_
  have c23 : bs_cr1 h (12, 52) (bs_li0 [.null, .ref (h + 1), .ref (h + 2), .ref (h + 3), .ref (h + 4), .null, .ref (h + 5), .null, .null, .null, .null, .ref (h + 6), .ref (h + 7), .ref (h + 8), .ref (h + 9), .ref (h + 10), .ref (h + 11), .ref (h + 12), .ref (h + 13), .ref (h + 14), .null, .ref (h + 15), .ref (h + 16), .null, .null, .null, .ref (h + 17), .ref (h + 18), .ref (h + 19), .ref (h + 20), .ref (h + 21), .null, .null, .null, .ref (h + 22), .ref (h + 23), .null, .null, .null, .null, .null, .null, .null, .null, .null, .null, .null, .null, .null, .null, .null, .null]) [((14, 6), fun _ => .null), ((14, 6), fun _ => .null), ((14, 6), fun _ => .null), ((14, 6), fun _ => .null), ((14, 200), fun _ => .null), ((14, 13), fun _ => .null), ((14, 78), fun _ => .null), ((14, 13), fun _ => .null), ((14, 13), fun _ => .null), ((14, 312), fun _ => .null), ((14, 312), fun _ => .null), ((14, 312), fun _ => .null), ((14, 312), fun _ => .null), ((14, 13), fun _ => .null), ((14, 60), fun _ => .null), ((14, 8), fun _ => .null), ((14, 60), fun _ => .null), ((14, 2800), fun _ => .null), ((14, 7), fun _ => .null), ((14, 448), fun _ => .null), ((14, 448), fun _ => .null), ((15, 400), fun _ => .null), ((14, 8), fun _ => .null)] _ _ sh mu := c22.rowl (nx := h + 23) rfl 35 14 8 (Nat.le_of_ble_eq_true rfl)
  refine bs_aload_n dX12_init_197 rfl ?_
  refine bs_sipush (v := nI 3600) dX12_init_198 (by decide) ?_
  refine bs_newa (ty := .int) (k := 14) (N := 3600) (tk := 1) dX12_init_201 w_arr_int rfl (by decide) rfl (by decide) (by decide) (by decide) ?_
  refine bs_putF dX12_init_203 pX12_80 rfl (by rw [bs_ns_f (by omega)]; exact (congrArg Prod.fst c23.1)) ?_
  have c24 : bs_cr1 h (12, 52) (bs_li0 [.null, .ref (h + 1), .ref (h + 2), .ref (h + 3), .ref (h + 4), .null, .ref (h + 5), .null, .null, .null, .null, .ref (h + 6), .ref (h + 7), .ref (h + 8), .ref (h + 9), .ref (h + 10), .ref (h + 11), .ref (h + 12), .ref (h + 13), .ref (h + 14), .null, .ref (h + 15), .ref (h + 16), .null, .null, .null, .ref (h + 17), .ref (h + 18), .ref (h + 19), .ref (h + 20), .ref (h + 21), .null, .null, .null, .ref (h + 22), .ref (h + 23), .ref (h + 24), .null, .null, .null, .null, .null, .null, .null, .null, .null, .null, .null, .null, .null, .null, .null]) [((14, 6), fun _ => .null), ((14, 6), fun _ => .null), ((14, 6), fun _ => .null), ((14, 6), fun _ => .null), ((14, 200), fun _ => .null), ((14, 13), fun _ => .null), ((14, 78), fun _ => .null), ((14, 13), fun _ => .null), ((14, 13), fun _ => .null), ((14, 312), fun _ => .null), ((14, 312), fun _ => .null), ((14, 312), fun _ => .null), ((14, 312), fun _ => .null), ((14, 13), fun _ => .null), ((14, 60), fun _ => .null), ((14, 8), fun _ => .null), ((14, 60), fun _ => .null), ((14, 2800), fun _ => .null), ((14, 7), fun _ => .null), ((14, 448), fun _ => .null), ((14, 448), fun _ => .null), ((15, 400), fun _ => .null), ((14, 8), fun _ => .null), ((14, 3600), fun _ => .null)] _ _ sh mu := c23.rowl (nx := h + 24) rfl 36 14 3600 (Nat.le_of_ble_eq_true rfl)
  refine bs_aload_n dX12_init_206 rfl ?_
  refine bs_sipush (v := nI 1024) dX12_init_207 (by decide) ?_
  refine bs_newa (ty := .int) (k := 14) (N := 1024) (tk := 1) dX12_init_210 w_arr_int rfl (by decide) rfl (by decide) (by decide) (by decide) ?_
  refine bs_putF dX12_init_212 pX12_83 rfl (by rw [bs_ns_f (by omega)]; exact (congrArg Prod.fst c24.1)) ?_
  have c25 : bs_cr1 h (12, 52) (bs_li0 [.null, .ref (h + 1), .ref (h + 2), .ref (h + 3), .ref (h + 4), .null, .ref (h + 5), .null, .null, .null, .null, .ref (h + 6), .ref (h + 7), .ref (h + 8), .ref (h + 9), .ref (h + 10), .ref (h + 11), .ref (h + 12), .ref (h + 13), .ref (h + 14), .null, .ref (h + 15), .ref (h + 16), .null, .null, .null, .ref (h + 17), .ref (h + 18), .ref (h + 19), .ref (h + 20), .ref (h + 21), .null, .null, .null, .ref (h + 22), .ref (h + 23), .ref (h + 24), .ref (h + 25), .null, .null, .null, .null, .null, .null, .null, .null, .null, .null, .null, .null, .null, .null]) [((14, 6), fun _ => .null), ((14, 6), fun _ => .null), ((14, 6), fun _ => .null), ((14, 6), fun _ => .null), ((14, 200), fun _ => .null), ((14, 13), fun _ => .null), ((14, 78), fun _ => .null), ((14, 13), fun _ => .null), ((14, 13), fun _ => .null), ((14, 312), fun _ => .null), ((14, 312), fun _ => .null), ((14, 312), fun _ => .null), ((14, 312), fun _ => .null), ((14, 13), fun _ => .null), ((14, 60), fun _ => .null), ((14, 8), fun _ => .null), ((14, 60), fun _ => .null), ((14, 2800), fun _ => .null), ((14, 7), fun _ => .null), ((14, 448), fun _ => .null), ((14, 448), fun _ => .null), ((15, 400), fun _ => .null), ((14, 8), fun _ => .null), ((14, 3600), fun _ => .null), ((14, 1024), fun _ => .null)] _ _ sh mu := c24.rowl (nx := h + 25) rfl 37 14 1024 (Nat.le_of_ble_eq_true rfl)
  refine bs_aload_n dX12_init_215 rfl ?_
  refine bs_sipush (v := nI 1024) dX12_init_216 (by decide) ?_
  refine bs_newa (ty := .boolean) (k := 16) (N := 1024) (tk := 3) dX12_init_219 w_arr_boolean rfl (by decide) rfl (by decide) (by decide) (by decide) ?_
  refine bs_putF dX12_init_221 pX12_86 rfl (by rw [bs_ns_f (by omega)]; exact (congrArg Prod.fst c25.1)) ?_
  have c26 : bs_cr1 h (12, 52) (bs_li0 [.null, .ref (h + 1), .ref (h + 2), .ref (h + 3), .ref (h + 4), .null, .ref (h + 5), .null, .null, .null, .null, .ref (h + 6), .ref (h + 7), .ref (h + 8), .ref (h + 9), .ref (h + 10), .ref (h + 11), .ref (h + 12), .ref (h + 13), .ref (h + 14), .null, .ref (h + 15), .ref (h + 16), .null, .null, .null, .ref (h + 17), .ref (h + 18), .ref (h + 19), .ref (h + 20), .ref (h + 21), .null, .null, .null, .ref (h + 22), .ref (h + 23), .ref (h + 24), .ref (h + 25), .ref (h + 26), .null, .null, .null, .null, .null, .null, .null, .null, .null, .null, .null, .null, .null]) [((14, 6), fun _ => .null), ((14, 6), fun _ => .null), ((14, 6), fun _ => .null), ((14, 6), fun _ => .null), ((14, 200), fun _ => .null), ((14, 13), fun _ => .null), ((14, 78), fun _ => .null), ((14, 13), fun _ => .null), ((14, 13), fun _ => .null), ((14, 312), fun _ => .null), ((14, 312), fun _ => .null), ((14, 312), fun _ => .null), ((14, 312), fun _ => .null), ((14, 13), fun _ => .null), ((14, 60), fun _ => .null), ((14, 8), fun _ => .null), ((14, 60), fun _ => .null), ((14, 2800), fun _ => .null), ((14, 7), fun _ => .null), ((14, 448), fun _ => .null), ((14, 448), fun _ => .null), ((15, 400), fun _ => .null), ((14, 8), fun _ => .null), ((14, 3600), fun _ => .null), ((14, 1024), fun _ => .null), ((16, 1024), fun _ => .null)] _ _ sh mu := c25.rowl (nx := h + 26) rfl 38 16 1024 (Nat.le_of_ble_eq_true rfl)
  refine bs_aload_n dX12_init_224 rfl ?_
  refine bs_bipush (v := nI 24) dX12_init_225 (by decide) ?_
  refine bs_newa (ty := .int) (k := 14) (N := 24) (tk := 1) dX12_init_227 w_arr_int rfl (by decide) rfl (by decide) (by decide) (by decide) ?_
  refine bs_putF dX12_init_229 pX12_90 rfl (by rw [bs_ns_f (by omega)]; exact (congrArg Prod.fst c26.1)) ?_
  have c27 : bs_cr1 h (12, 52) (bs_li0 [.null, .ref (h + 1), .ref (h + 2), .ref (h + 3), .ref (h + 4), .null, .ref (h + 5), .null, .null, .null, .null, .ref (h + 6), .ref (h + 7), .ref (h + 8), .ref (h + 9), .ref (h + 10), .ref (h + 11), .ref (h + 12), .ref (h + 13), .ref (h + 14), .null, .ref (h + 15), .ref (h + 16), .null, .null, .null, .ref (h + 17), .ref (h + 18), .ref (h + 19), .ref (h + 20), .ref (h + 21), .null, .null, .null, .ref (h + 22), .ref (h + 23), .ref (h + 24), .ref (h + 25), .ref (h + 26), .ref (h + 27), .null, .null, .null, .null, .null, .null, .null, .null, .null, .null, .null, .null]) [((14, 6), fun _ => .null), ((14, 6), fun _ => .null), ((14, 6), fun _ => .null), ((14, 6), fun _ => .null), ((14, 200), fun _ => .null), ((14, 13), fun _ => .null), ((14, 78), fun _ => .null), ((14, 13), fun _ => .null), ((14, 13), fun _ => .null), ((14, 312), fun _ => .null), ((14, 312), fun _ => .null), ((14, 312), fun _ => .null), ((14, 312), fun _ => .null), ((14, 13), fun _ => .null), ((14, 60), fun _ => .null), ((14, 8), fun _ => .null), ((14, 60), fun _ => .null), ((14, 2800), fun _ => .null), ((14, 7), fun _ => .null), ((14, 448), fun _ => .null), ((14, 448), fun _ => .null), ((15, 400), fun _ => .null), ((14, 8), fun _ => .null), ((14, 3600), fun _ => .null), ((14, 1024), fun _ => .null), ((16, 1024), fun _ => .null), ((14, 24), fun _ => .null)] _ _ sh mu := c26.rowl (nx := h + 27) rfl 39 14 24 (Nat.le_of_ble_eq_true rfl)
  refine bs_aload_n dX12_init_232 rfl ?_
  refine bs_bipush (v := nI 30) dX12_init_233 (by decide) ?_
  refine bs_newa (ty := .int) (k := 14) (N := 30) (tk := 1) dX12_init_235 w_arr_int rfl (by decide) rfl (by decide) (by decide) (by decide) ?_
  refine bs_putF dX12_init_237 pX12_93 rfl (by rw [bs_ns_f (by omega)]; exact (congrArg Prod.fst c27.1)) ?_
  have c28 : bs_cr1 h (12, 52) (bs_li0 [.null, .ref (h + 1), .ref (h + 2), .ref (h + 3), .ref (h + 4), .null, .ref (h + 5), .null, .null, .null, .null, .ref (h + 6), .ref (h + 7), .ref (h + 8), .ref (h + 9), .ref (h + 10), .ref (h + 11), .ref (h + 12), .ref (h + 13), .ref (h + 14), .null, .ref (h + 15), .ref (h + 16), .null, .null, .null, .ref (h + 17), .ref (h + 18), .ref (h + 19), .ref (h + 20), .ref (h + 21), .null, .null, .null, .ref (h + 22), .ref (h + 23), .ref (h + 24), .ref (h + 25), .ref (h + 26), .ref (h + 27), .ref (h + 28), .null, .null, .null, .null, .null, .null, .null, .null, .null, .null, .null]) [((14, 6), fun _ => .null), ((14, 6), fun _ => .null), ((14, 6), fun _ => .null), ((14, 6), fun _ => .null), ((14, 200), fun _ => .null), ((14, 13), fun _ => .null), ((14, 78), fun _ => .null), ((14, 13), fun _ => .null), ((14, 13), fun _ => .null), ((14, 312), fun _ => .null), ((14, 312), fun _ => .null), ((14, 312), fun _ => .null), ((14, 312), fun _ => .null), ((14, 13), fun _ => .null), ((14, 60), fun _ => .null), ((14, 8), fun _ => .null), ((14, 60), fun _ => .null), ((14, 2800), fun _ => .null), ((14, 7), fun _ => .null), ((14, 448), fun _ => .null), ((14, 448), fun _ => .null), ((15, 400), fun _ => .null), ((14, 8), fun _ => .null), ((14, 3600), fun _ => .null), ((14, 1024), fun _ => .null), ((16, 1024), fun _ => .null), ((14, 24), fun _ => .null), ((14, 30), fun _ => .null)] _ _ sh mu := c27.rowl (nx := h + 28) rfl 40 14 30 (Nat.le_of_ble_eq_true rfl)
  refine bs_aload_n dX12_init_240 rfl ?_
  refine bs_bipush (v := nI 30) dX12_init_241 (by decide) ?_
  refine bs_newa (ty := .int) (k := 14) (N := 30) (tk := 1) dX12_init_243 w_arr_int rfl (by decide) rfl (by decide) (by decide) (by decide) ?_
  refine bs_putF dX12_init_245 pX12_96 rfl (by rw [bs_ns_f (by omega)]; exact (congrArg Prod.fst c28.1)) ?_
  have c29 : bs_cr1 h (12, 52) (bs_li0 [.null, .ref (h + 1), .ref (h + 2), .ref (h + 3), .ref (h + 4), .null, .ref (h + 5), .null, .null, .null, .null, .ref (h + 6), .ref (h + 7), .ref (h + 8), .ref (h + 9), .ref (h + 10), .ref (h + 11), .ref (h + 12), .ref (h + 13), .ref (h + 14), .null, .ref (h + 15), .ref (h + 16), .null, .null, .null, .ref (h + 17), .ref (h + 18), .ref (h + 19), .ref (h + 20), .ref (h + 21), .null, .null, .null, .ref (h + 22), .ref (h + 23), .ref (h + 24), .ref (h + 25), .ref (h + 26), .ref (h + 27), .ref (h + 28), .ref (h + 29), .null, .null, .null, .null, .null, .null, .null, .null, .null, .null]) [((14, 6), fun _ => .null), ((14, 6), fun _ => .null), ((14, 6), fun _ => .null), ((14, 6), fun _ => .null), ((14, 200), fun _ => .null), ((14, 13), fun _ => .null), ((14, 78), fun _ => .null), ((14, 13), fun _ => .null), ((14, 13), fun _ => .null), ((14, 312), fun _ => .null), ((14, 312), fun _ => .null), ((14, 312), fun _ => .null), ((14, 312), fun _ => .null), ((14, 13), fun _ => .null), ((14, 60), fun _ => .null), ((14, 8), fun _ => .null), ((14, 60), fun _ => .null), ((14, 2800), fun _ => .null), ((14, 7), fun _ => .null), ((14, 448), fun _ => .null), ((14, 448), fun _ => .null), ((15, 400), fun _ => .null), ((14, 8), fun _ => .null), ((14, 3600), fun _ => .null), ((14, 1024), fun _ => .null), ((16, 1024), fun _ => .null), ((14, 24), fun _ => .null), ((14, 30), fun _ => .null), ((14, 30), fun _ => .null)] _ _ sh mu := c28.rowl (nx := h + 29) rfl 41 14 30 (Nat.le_of_ble_eq_true rfl)
  refine bs_aload_n dX12_init_248 rfl ?_
  refine bs_bipush (v := nI 30) dX12_init_249 (by decide) ?_
  refine bs_newa (ty := .int) (k := 14) (N := 30) (tk := 1) dX12_init_251 w_arr_int rfl (by decide) rfl (by decide) (by decide) (by decide) ?_
  refine bs_putF dX12_init_253 pX12_99 rfl (by rw [bs_ns_f (by omega)]; exact (congrArg Prod.fst c29.1)) ?_
  have c30 : bs_cr1 h (12, 52) (bs_li0 [.null, .ref (h + 1), .ref (h + 2), .ref (h + 3), .ref (h + 4), .null, .ref (h + 5), .null, .null, .null, .null, .ref (h + 6), .ref (h + 7), .ref (h + 8), .ref (h + 9), .ref (h + 10), .ref (h + 11), .ref (h + 12), .ref (h + 13), .ref (h + 14), .null, .ref (h + 15), .ref (h + 16), .null, .null, .null, .ref (h + 17), .ref (h + 18), .ref (h + 19), .ref (h + 20), .ref (h + 21), .null, .null, .null, .ref (h + 22), .ref (h + 23), .ref (h + 24), .ref (h + 25), .ref (h + 26), .ref (h + 27), .ref (h + 28), .ref (h + 29), .ref (h + 30), .null, .null, .null, .null, .null, .null, .null, .null, .null]) [((14, 6), fun _ => .null), ((14, 6), fun _ => .null), ((14, 6), fun _ => .null), ((14, 6), fun _ => .null), ((14, 200), fun _ => .null), ((14, 13), fun _ => .null), ((14, 78), fun _ => .null), ((14, 13), fun _ => .null), ((14, 13), fun _ => .null), ((14, 312), fun _ => .null), ((14, 312), fun _ => .null), ((14, 312), fun _ => .null), ((14, 312), fun _ => .null), ((14, 13), fun _ => .null), ((14, 60), fun _ => .null), ((14, 8), fun _ => .null), ((14, 60), fun _ => .null), ((14, 2800), fun _ => .null), ((14, 7), fun _ => .null), ((14, 448), fun _ => .null), ((14, 448), fun _ => .null), ((15, 400), fun _ => .null), ((14, 8), fun _ => .null), ((14, 3600), fun _ => .null), ((14, 1024), fun _ => .null), ((16, 1024), fun _ => .null), ((14, 24), fun _ => .null), ((14, 30), fun _ => .null), ((14, 30), fun _ => .null), ((14, 30), fun _ => .null)] _ _ sh mu := c29.rowl (nx := h + 30) rfl 42 14 30 (Nat.le_of_ble_eq_true rfl)
  refine bs_aload_n dX12_init_256 rfl ?_
  refine bs_bipush (v := nI 120) dX12_init_257 (by decide) ?_
  refine bs_newa (ty := .int) (k := 14) (N := 120) (tk := 1) dX12_init_259 w_arr_int rfl (by decide) rfl (by decide) (by decide) (by decide) ?_
  refine bs_putF dX12_init_261 pX12_102 rfl (by rw [bs_ns_f (by omega)]; exact (congrArg Prod.fst c30.1)) ?_
  have c31 : bs_cr1 h (12, 52) (bs_li0 [.null, .ref (h + 1), .ref (h + 2), .ref (h + 3), .ref (h + 4), .null, .ref (h + 5), .null, .null, .null, .null, .ref (h + 6), .ref (h + 7), .ref (h + 8), .ref (h + 9), .ref (h + 10), .ref (h + 11), .ref (h + 12), .ref (h + 13), .ref (h + 14), .null, .ref (h + 15), .ref (h + 16), .null, .null, .null, .ref (h + 17), .ref (h + 18), .ref (h + 19), .ref (h + 20), .ref (h + 21), .null, .null, .null, .ref (h + 22), .ref (h + 23), .ref (h + 24), .ref (h + 25), .ref (h + 26), .ref (h + 27), .ref (h + 28), .ref (h + 29), .ref (h + 30), .ref (h + 31), .null, .null, .null, .null, .null, .null, .null, .null]) [((14, 6), fun _ => .null), ((14, 6), fun _ => .null), ((14, 6), fun _ => .null), ((14, 6), fun _ => .null), ((14, 200), fun _ => .null), ((14, 13), fun _ => .null), ((14, 78), fun _ => .null), ((14, 13), fun _ => .null), ((14, 13), fun _ => .null), ((14, 312), fun _ => .null), ((14, 312), fun _ => .null), ((14, 312), fun _ => .null), ((14, 312), fun _ => .null), ((14, 13), fun _ => .null), ((14, 60), fun _ => .null), ((14, 8), fun _ => .null), ((14, 60), fun _ => .null), ((14, 2800), fun _ => .null), ((14, 7), fun _ => .null), ((14, 448), fun _ => .null), ((14, 448), fun _ => .null), ((15, 400), fun _ => .null), ((14, 8), fun _ => .null), ((14, 3600), fun _ => .null), ((14, 1024), fun _ => .null), ((16, 1024), fun _ => .null), ((14, 24), fun _ => .null), ((14, 30), fun _ => .null), ((14, 30), fun _ => .null), ((14, 30), fun _ => .null), ((14, 120), fun _ => .null)] _ _ sh mu := c30.rowl (nx := h + 31) rfl 43 14 120 (Nat.le_of_ble_eq_true rfl)
  refine bs_aload_n dX12_init_264 rfl ?_
  refine bs_bipush (v := nI 6) dX12_init_265 (by decide) ?_
  refine bs_newa (ty := .int) (k := 14) (N := 6) (tk := 1) dX12_init_267 w_arr_int rfl (by decide) rfl (by decide) (by decide) (by decide) ?_
  refine bs_putF dX12_init_269 pX12_105 rfl (by rw [bs_ns_f (by omega)]; exact (congrArg Prod.fst c31.1)) ?_
  have c32 : bs_cr1 h (12, 52) (bs_li0 [.null, .ref (h + 1), .ref (h + 2), .ref (h + 3), .ref (h + 4), .null, .ref (h + 5), .null, .null, .null, .null, .ref (h + 6), .ref (h + 7), .ref (h + 8), .ref (h + 9), .ref (h + 10), .ref (h + 11), .ref (h + 12), .ref (h + 13), .ref (h + 14), .null, .ref (h + 15), .ref (h + 16), .null, .null, .null, .ref (h + 17), .ref (h + 18), .ref (h + 19), .ref (h + 20), .ref (h + 21), .null, .null, .null, .ref (h + 22), .ref (h + 23), .ref (h + 24), .ref (h + 25), .ref (h + 26), .ref (h + 27), .ref (h + 28), .ref (h + 29), .ref (h + 30), .ref (h + 31), .ref (h + 32), .null, .null, .null, .null, .null, .null, .null]) [((14, 6), fun _ => .null), ((14, 6), fun _ => .null), ((14, 6), fun _ => .null), ((14, 6), fun _ => .null), ((14, 200), fun _ => .null), ((14, 13), fun _ => .null), ((14, 78), fun _ => .null), ((14, 13), fun _ => .null), ((14, 13), fun _ => .null), ((14, 312), fun _ => .null), ((14, 312), fun _ => .null), ((14, 312), fun _ => .null), ((14, 312), fun _ => .null), ((14, 13), fun _ => .null), ((14, 60), fun _ => .null), ((14, 8), fun _ => .null), ((14, 60), fun _ => .null), ((14, 2800), fun _ => .null), ((14, 7), fun _ => .null), ((14, 448), fun _ => .null), ((14, 448), fun _ => .null), ((15, 400), fun _ => .null), ((14, 8), fun _ => .null), ((14, 3600), fun _ => .null), ((14, 1024), fun _ => .null), ((16, 1024), fun _ => .null), ((14, 24), fun _ => .null), ((14, 30), fun _ => .null), ((14, 30), fun _ => .null), ((14, 30), fun _ => .null), ((14, 120), fun _ => .null), ((14, 6), fun _ => .null)] _ _ sh mu := c31.rowl (nx := h + 32) rfl 44 14 6 (Nat.le_of_ble_eq_true rfl)
  refine bs_aload_n dX12_init_272 rfl ?_
  refine bs_iconst (v := 1) dX12_init_273 (by decide) ?_
  refine bs_putI dX12_init_274 pX12_108 (congrArg Prod.fst c32.1) ?_
  have c33 : bs_cr1 h (12, 52) (bs_li0 [.null, .ref (h + 1), .ref (h + 2), .ref (h + 3), .ref (h + 4), .null, .ref (h + 5), .null, .null, .null, .null, .ref (h + 6), .ref (h + 7), .ref (h + 8), .ref (h + 9), .ref (h + 10), .ref (h + 11), .ref (h + 12), .ref (h + 13), .ref (h + 14), .null, .ref (h + 15), .ref (h + 16), .null, .null, .null, .ref (h + 17), .ref (h + 18), .ref (h + 19), .ref (h + 20), .ref (h + 21), .null, .null, .null, .ref (h + 22), .ref (h + 23), .ref (h + 24), .ref (h + 25), .ref (h + 26), .ref (h + 27), .ref (h + 28), .ref (h + 29), .ref (h + 30), .ref (h + 31), .ref (h + 32), .null, .null, .int 1, .null, .null, .null, .null]) [((14, 6), fun _ => .null), ((14, 6), fun _ => .null), ((14, 6), fun _ => .null), ((14, 6), fun _ => .null), ((14, 200), fun _ => .null), ((14, 13), fun _ => .null), ((14, 78), fun _ => .null), ((14, 13), fun _ => .null), ((14, 13), fun _ => .null), ((14, 312), fun _ => .null), ((14, 312), fun _ => .null), ((14, 312), fun _ => .null), ((14, 312), fun _ => .null), ((14, 13), fun _ => .null), ((14, 60), fun _ => .null), ((14, 8), fun _ => .null), ((14, 60), fun _ => .null), ((14, 2800), fun _ => .null), ((14, 7), fun _ => .null), ((14, 448), fun _ => .null), ((14, 448), fun _ => .null), ((15, 400), fun _ => .null), ((14, 8), fun _ => .null), ((14, 3600), fun _ => .null), ((14, 1024), fun _ => .null), ((16, 1024), fun _ => .null), ((14, 24), fun _ => .null), ((14, 30), fun _ => .null), ((14, 30), fun _ => .null), ((14, 30), fun _ => .null), ((14, 120), fun _ => .null), ((14, 6), fun _ => .null)] _ _ sh mu := c32.putl 47 (.int 1) (Nat.le_of_ble_eq_true rfl)
  refine bs_aload_n dX12_init_277 rfl ?_
  refine bs_bipush (v := nI 24) dX12_init_278 (by decide) ?_
  refine bs_newa (ty := .int) (k := 14) (N := 24) (tk := 1) dX12_init_280 w_arr_int rfl (by decide) rfl (by decide) (by decide) (by decide) ?_
  refine bs_putF dX12_init_282 pX12_112 rfl (by rw [bs_ns_f (by omega)]; exact (congrArg Prod.fst c33.1)) ?_
  have c34 : bs_cr1 h (12, 52) (bs_li0 [.null, .ref (h + 1), .ref (h + 2), .ref (h + 3), .ref (h + 4), .null, .ref (h + 5), .null, .null, .null, .null, .ref (h + 6), .ref (h + 7), .ref (h + 8), .ref (h + 9), .ref (h + 10), .ref (h + 11), .ref (h + 12), .ref (h + 13), .ref (h + 14), .null, .ref (h + 15), .ref (h + 16), .null, .null, .null, .ref (h + 17), .ref (h + 18), .ref (h + 19), .ref (h + 20), .ref (h + 21), .null, .null, .null, .ref (h + 22), .ref (h + 23), .ref (h + 24), .ref (h + 25), .ref (h + 26), .ref (h + 27), .ref (h + 28), .ref (h + 29), .ref (h + 30), .ref (h + 31), .ref (h + 32), .null, .null, .int 1, .null, .ref (h + 33), .null, .null]) [((14, 6), fun _ => .null), ((14, 6), fun _ => .null), ((14, 6), fun _ => .null), ((14, 6), fun _ => .null), ((14, 200), fun _ => .null), ((14, 13), fun _ => .null), ((14, 78), fun _ => .null), ((14, 13), fun _ => .null), ((14, 13), fun _ => .null), ((14, 312), fun _ => .null), ((14, 312), fun _ => .null), ((14, 312), fun _ => .null), ((14, 312), fun _ => .null), ((14, 13), fun _ => .null), ((14, 60), fun _ => .null), ((14, 8), fun _ => .null), ((14, 60), fun _ => .null), ((14, 2800), fun _ => .null), ((14, 7), fun _ => .null), ((14, 448), fun _ => .null), ((14, 448), fun _ => .null), ((15, 400), fun _ => .null), ((14, 8), fun _ => .null), ((14, 3600), fun _ => .null), ((14, 1024), fun _ => .null), ((16, 1024), fun _ => .null), ((14, 24), fun _ => .null), ((14, 30), fun _ => .null), ((14, 30), fun _ => .null), ((14, 30), fun _ => .null), ((14, 120), fun _ => .null), ((14, 6), fun _ => .null), ((14, 24), fun _ => .null)] _ _ sh mu := c33.rowl (nx := h + 33) rfl 49 14 24 (Nat.le_of_ble_eq_true rfl)
  refine bs_aload_n dX12_init_285 rfl ?_
  refine bs_bipush (v := nI 24) dX12_init_286 (by decide) ?_
  refine bs_newa (ty := .int) (k := 14) (N := 24) (tk := 1) dX12_init_288 w_arr_int rfl (by decide) rfl (by decide) (by decide) (by decide) ?_
  refine bs_putF dX12_init_290 pX12_115 rfl (by rw [bs_ns_f (by omega)]; exact (congrArg Prod.fst c34.1)) ?_
  have c35 : bs_cr1 h (12, 52) (bs_li0 [.null, .ref (h + 1), .ref (h + 2), .ref (h + 3), .ref (h + 4), .null, .ref (h + 5), .null, .null, .null, .null, .ref (h + 6), .ref (h + 7), .ref (h + 8), .ref (h + 9), .ref (h + 10), .ref (h + 11), .ref (h + 12), .ref (h + 13), .ref (h + 14), .null, .ref (h + 15), .ref (h + 16), .null, .null, .null, .ref (h + 17), .ref (h + 18), .ref (h + 19), .ref (h + 20), .ref (h + 21), .null, .null, .null, .ref (h + 22), .ref (h + 23), .ref (h + 24), .ref (h + 25), .ref (h + 26), .ref (h + 27), .ref (h + 28), .ref (h + 29), .ref (h + 30), .ref (h + 31), .ref (h + 32), .null, .null, .int 1, .null, .ref (h + 33), .ref (h + 34), .null]) [((14, 6), fun _ => .null), ((14, 6), fun _ => .null), ((14, 6), fun _ => .null), ((14, 6), fun _ => .null), ((14, 200), fun _ => .null), ((14, 13), fun _ => .null), ((14, 78), fun _ => .null), ((14, 13), fun _ => .null), ((14, 13), fun _ => .null), ((14, 312), fun _ => .null), ((14, 312), fun _ => .null), ((14, 312), fun _ => .null), ((14, 312), fun _ => .null), ((14, 13), fun _ => .null), ((14, 60), fun _ => .null), ((14, 8), fun _ => .null), ((14, 60), fun _ => .null), ((14, 2800), fun _ => .null), ((14, 7), fun _ => .null), ((14, 448), fun _ => .null), ((14, 448), fun _ => .null), ((15, 400), fun _ => .null), ((14, 8), fun _ => .null), ((14, 3600), fun _ => .null), ((14, 1024), fun _ => .null), ((16, 1024), fun _ => .null), ((14, 24), fun _ => .null), ((14, 30), fun _ => .null), ((14, 30), fun _ => .null), ((14, 30), fun _ => .null), ((14, 120), fun _ => .null), ((14, 6), fun _ => .null), ((14, 24), fun _ => .null), ((14, 24), fun _ => .null)] _ _ sh mu := c34.rowl (nx := h + 34) rfl 50 14 24 (Nat.le_of_ble_eq_true rfl)
  exact bs_vret dX12_init_293 rfl (by decide) (by decide) ⟨rfl, rfl, c35⟩
