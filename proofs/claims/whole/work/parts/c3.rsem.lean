/-! RULES (own): what a row of steps is worth. A step i: below 10000 a number, 10000 .. a letter, 30000 + c the sign c -/
def rv_w (v : Int64) : Int64 := if (if v < (1000000 : Int64) then v else (1000000 : Int64)) < (-1000000 : Int64) then (-1000000 : Int64) else (if v < (1000000 : Int64) then v else (1000000 : Int64))
def rv_a (c : Nat) (a b : Int64) : Int64 := if c = 42 then rv_w (a * b) else if c = 43 then rv_w (a + b) else if c = 45 then rv_w (a - b) else if c = 47 then (if lg_cmp b 0 = 0 then 0 else rv_w (a / b)) else if c = 60 then (if 0 ≤ lg_cmp a b then 0 else 1) else if c = 61 then (if lg_cmp a b = 0 then 1 else 0) else (if lg_cmp a b ≤ 0 then 0 else 1)
def rv_o (cl : Bool) (c : Nat) (a b : Int64) : Int64 := if c = 38 then (if cl = true then a &&& b else if lg_cmp (a + b) 2 = 0 then 1 else 0) else if c = 124 then (if cl = true then a ||| b else if lg_cmp (a + b) 0 ≤ 0 then 0 else 1) else rv_a c a b
def rv_n (cl : Bool) (a : Int64) : Int64 := if cl = true then (if lg_cmp a 0 = 0 then 1 else 0) else 1 - a
def rv_f (v : Nat → Int64) (k : Nat) (a : Int64) : Nat → Int64 := fun j => if j = k then a else v j
theorem rv_fs {v : Nat → Int64} {k : Nat} {a : Int64} : rv_f v k a k = a := if_pos rfl
theorem rv_fn {v : Nat → Int64} {k j : Nat} {a : Int64} (h : j ≠ k) : rv_f v k a j = v j := if_neg h
def rv_1 (cl : Bool) (E : Nat → Int32) (i : Nat) (v : Nat → Int64) (t : Nat) : Option ((Nat → Int64) × Nat) := if i < 10000 then some (rv_f v t (nI i).toInt64, t + 1) else if i < 20000 then some (rv_f v t (E (i - 10000)).toInt64, t + 1) else if i = 30033 then (if t = 0 then none else some (rv_f v (t - 1) (rv_n cl (v (t - 1))), t)) else (if t < 2 then none else some (rv_f v (t - 2) (rv_o cl (i - 30000) (v (t - 2)) (v (t - 1))), t - 1))
def rv_x (cl : Bool) (E : Nat → Int32) : List Nat → (Nat → Int64) → Nat → Option ((Nat → Int64) × Nat)
  | [], v, t => some (v, t)
  | i :: c, v, t => (rv_1 cl E i v t).bind fun s => rv_x cl E c s.1 s.2
theorem rv_xA {cl : Bool} {E : Nat → Int32} : ∀ (a b : List Nat) (v : Nat → Int64) (t : Nat), rv_x cl E (a ++ b) v t = (rv_x cl E a v t).bind fun s => rv_x cl E b s.1 s.2 := by
  intro a
  induction a with
  | nil => intro b v t; rfl
  | cons i a ih =>
    intro b v t
    show (rv_1 cl E i v t).bind _ = ((rv_1 cl E i v t).bind _).bind _
    cases rv_1 cl E i v t with
    | none => rfl
    | some s => exact ih b s.1 s.2
/-- a row of steps leaves one value on top of what lies there: of sums; of conditions (0 or 1) -/
def rv_P (E : Nat → Int32) (c : List Nat) (val : Int64) : Prop := ∀ cl v t, ∃ v', rv_x cl E c v t = some (v', t + 1) ∧ v' t = val ∧ ∀ j, j < t → v' j = v j
def rv_S (c : List Nat) : Prop := ∀ E, ∃ val, rv_P E c val
def rv_B (c : List Nat) : Prop := ∀ E, ∃ val, (val = 0 ∨ val = 1) ∧ rv_P E c val
theorem rv_BS {c : List Nat} (h : rv_B c) : rv_S c := fun E => (h E).elim fun val h => ⟨val, h.2⟩
theorem rv_S1 {i : Nat} (h : i < 20000) : rv_S [i] := fun E => by
  by_cases c : i < 10000
  · refine ⟨(nI i).toInt64, fun cl v t => ⟨rv_f v t (nI i).toInt64, ?_, rv_fs, fun j hj => rv_fn (by omega)⟩⟩
    simp only [rv_x, rv_1, if_pos c, Option.bind]
  · refine ⟨(E (i - 10000)).toInt64, fun cl v t => ⟨rv_f v t (E (i - 10000)).toInt64, ?_, rv_fs, fun j hj => rv_fn (by omega)⟩⟩
    simp only [rv_x, rv_1, if_neg c, if_pos h, Option.bind]
theorem rv_P2 {E : Nat → Int32} {a b : List Nat} {x y z : Int64} {i : Nat} (ha : rv_P E a x) (hb : rv_P E b y) (hi : 20000 ≤ i) (hn : i ≠ 30033) (h : ∀ cl, rv_o cl (i - 30000) x y = z) : rv_P E (a ++ (b ++ [i])) z := fun cl v t => by
  obtain ⟨v1, a1, a2, a3⟩ := ha cl v t
  obtain ⟨v2, b1, b2, b3⟩ := hb cl v1 (t + 1)
  refine ⟨rv_f v2 t (rv_o cl (i - 30000) (v2 t) (v2 (t + 1))), ?_, ?_, fun j hj => ?_⟩
  · rw [rv_xA, a1]
    show rv_x cl E (b ++ [i]) v1 (t + 1) = _
    rw [rv_xA, b1]
    show (rv_1 cl E i v2 (t + 1 + 1)).bind _ = _
    rw [rv_1, if_neg (by omega), if_neg (by omega), if_neg hn, if_neg (by omega)]
    rfl
  · rw [rv_fs, b2, b3 t (by omega), a2, h cl]
  · rw [rv_fn (by omega), b3 j (by omega), a3 j hj]
theorem rv_So {a b : List Nat} {c : Nat} (ha : rv_S a) (hb : rv_S b) (hc : c ≠ 38 ∧ c ≠ 124 ∧ c ≠ 33) : rv_S (a ++ (b ++ [30000 + c])) := fun E => by
  obtain ⟨x, hx⟩ := ha E
  obtain ⟨y, hy⟩ := hb E
  refine ⟨rv_a c x y, rv_P2 hx hy (by omega) (by omega) fun cl => ?_⟩
  rw [Nat.add_sub_cancel_left, rv_o, if_neg hc.1, if_neg hc.2.1]
theorem rv_Bc {a b : List Nat} {c : Nat} (ha : rv_S a) (hb : rv_S b) (hc : c = 60 ∨ c = 61 ∨ c = 62) : rv_B (a ++ (b ++ [30000 + c])) := fun E => by
  obtain ⟨x, hx⟩ := ha E
  obtain ⟨y, hy⟩ := hb E
  refine ⟨rv_a c x y, ?_, rv_P2 hx hy (by omega) (by omega) fun cl => ?_⟩
  · rw [rv_a, if_neg (by omega), if_neg (by omega), if_neg (by omega), if_neg (by omega)]
    repeat' split
    all_goals first | exact Or.inl rfl | exact Or.inr rfl
  · rw [Nat.add_sub_cancel_left, rv_o, if_neg (by omega), if_neg (by omega)]
theorem rv_Bd {a b : List Nat} {c : Nat} (ha : rv_B a) (hb : rv_B b) (hc : c = 38 ∨ c = 124) : rv_B (a ++ (b ++ [30000 + c])) := fun E => by
  obtain ⟨x, hx0, hx⟩ := ha E
  obtain ⟨y, hy0, hy⟩ := hb E
  refine ⟨rv_o true c x y, ?_, rv_P2 hx hy (by omega) (by omega) fun cl => ?_⟩
  · rcases hx0 with h | h
    · subst h
      rcases hy0 with h | h
      · subst h
        rcases hc with h | h
        · subst h; exact Or.inl rfl
        · subst h; exact Or.inl rfl
      · subst h
        rcases hc with h | h
        · subst h; exact Or.inl rfl
        · subst h; exact Or.inr rfl
    · subst h
      rcases hy0 with h | h
      · subst h
        rcases hc with h | h
        · subst h; exact Or.inl rfl
        · subst h; exact Or.inr rfl
      · subst h
        rcases hc with h | h
        · subst h; exact Or.inr rfl
        · subst h; exact Or.inr rfl
  · rw [Nat.add_sub_cancel_left]
    cases cl with
    | true => rfl
    | false =>
      rcases hx0 with h | h
      · subst h
        rcases hy0 with h | h
        · subst h
          rcases hc with h | h
          · subst h; rfl
          · subst h; rfl
        · subst h
          rcases hc with h | h
          · subst h; rfl
          · subst h; rfl
      · subst h
        rcases hy0 with h | h
        · subst h
          rcases hc with h | h
          · subst h; rfl
          · subst h; rfl
        · subst h
          rcases hc with h | h
          · subst h; rfl
          · subst h; rfl
theorem rv_Bn {a : List Nat} (ha : rv_B a) : rv_B (a ++ [30033]) := fun E => by
  obtain ⟨x, hx0, hx⟩ := ha E
  refine ⟨rv_n true x, ?_, fun cl v t => ?_⟩
  · rcases hx0 with h | h
    · subst h; exact Or.inr rfl
    · subst h; exact Or.inl rfl
  · obtain ⟨v1, a1, a2, a3⟩ := hx cl v t
    refine ⟨rv_f v1 t (rv_n cl (v1 t)), ?_, ?_, fun j hj => ?_⟩
    · rw [rv_xA, a1]
      show (rv_1 cl E 30033 v1 (t + 1)).bind _ = _
      rw [rv_1, if_neg (by omega), if_neg (by omega), if_pos rfl, if_neg (by omega)]
      rfl
    · rw [rv_fs, a2]
      cases cl with
      | true => rfl
      | false =>
        rcases hx0 with h | h
        · subst h; rfl
        · subst h; rfl
    · rw [rv_fn (by omega)]
      exact a3 j hj
/-- the value -/
def rv_v (E : Nat → Int32) (c : List Nat) : Int64 := match rv_x true E c (fun _ => 0) 0 with | some s => s.1 0 | none => 0
theorem rv_vP {E : Nat → Int32} {c : List Nat} {x : Int64} (h : rv_P E c x) : rv_v E c = x := by
  obtain ⟨v1, a1, a2, -⟩ := h true (fun _ => 0) 0
  unfold rv_v
  rw [a1]
  exact a2
theorem rv_SP {c : List Nat} (h : rv_S c) (E : Nat → Int32) : rv_P E c (rv_v E c) := by
  obtain ⟨x, hx⟩ := h E
  rw [rv_vP hx]
  exact hx
theorem rv_B01 {c : List Nat} (h : rv_B c) (E : Nat → Int32) : rv_v E c = 0 ∨ rv_v E c = 1 := by
  obtain ⟨x, h0, hx⟩ := h E
  rw [rv_vP hx]
  exact h0
/-- steps that may stand in a row -/
def rv_ok (i : Nat) : Prop := i < 10005 ∨ i = 30033 ∨ i = 30038 ∨ i = 30042 ∨ i = 30043 ∨ i = 30045 ∨ i = 30047 ∨ i = 30060 ∨ i = 30061 ∨ i = 30062 ∨ i = 30124
def rv_ko (c : List Nat) : Prop := ∀ i, i ∈ c → rv_ok i
abbrev bs_U : Type := List (List Nat × List Nat)
def u_k (q : List Nat × List Nat) : Prop := rv_ko q.1 ∧ rv_ko q.2 ∧ (q.1 = [] ∨ rv_B q.1) ∧ rv_S q.2
def u_v (E : Nat → Int32) : bs_U → Int32
  | [] => nI 0
  | q :: U => if q.1 = [] ∨ rv_v E q.1 = 1 then (rv_v E q.2).toInt32 else u_v E U
