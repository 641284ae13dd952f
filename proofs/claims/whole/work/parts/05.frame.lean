/-! THE FRAME (own): a memory by kinds and places, and one judgement 'bs_W' that hides the machine: of an address its kind and length (sh), what each place holds (mu). Kinds: 0 .. 12 the classes of vwCl; 13 char, 14 int, 15 long, 16 boolean rows, 17 rows of figures, 18 rows of rules; 99 nothing -/
abbrev bs_Sh : Type := Nat → Nat × Nat
abbrev bs_Mm : Type := Nat → Nat → Value
def bs_iv (v : Value) : Int32 := match v with | .int x => x | _ => 0
def bs_lv (v : Value) : Int64 := match v with | .long x => x | _ => 0
def bs_rv (v : Value) : Option Nat := match v with | .ref a => some a | _ => none
theorem bs_iv_i (x : Int32) : bs_iv (.int x) = x := rfl
theorem bs_lv_l (x : Int64) : bs_lv (.long x) = x := rfl
theorem bs_rv_r (x : Nat) : bs_rv (.ref x) = some x := rfl
theorem bs_rv_n : bs_rv .null = none := rfl
theorem bs_rv_rf (x : Option Nat) : bs_rv (va_rf x) = x := by cases x <;> rfl
/-- a place is written -/
def bs_up (mu : bs_Mm) (a k : Nat) (v : Value) : bs_Mm := fun b j => if b = a ∧ j = k then v else mu b j
theorem bs_up_eq (mu : bs_Mm) (a k : Nat) (v : Value) : bs_up mu a k v a k = v := by simp [bs_up]
theorem bs_up_ne (mu : bs_Mm) {a k b j : Nat} (v : Value) (h : ¬ (b = a ∧ j = k)) : bs_up mu a k v b j = mu b j := by simp [bs_up, h]
/-- the fields of a class -/
def bs_nf (ci : Nat) : Nat := match vwCl[ci]? with | some q => q.2.2 | none => 0
def bs_ty (ci : Nat) : Nat → FieldType := match ci with | 0 => tyX0 | 1 => tyX1 | 2 => tyX2 | 3 => tyX3 | 4 => tyX4 | 5 => tyX5 | 6 => tyX6 | 7 => tyX7 | 8 => tyX8 | 9 => tyX9 | 10 => tyX10 | 11 => tyX11 | _ => tyX12
/-- a field's value, seen by its type -/
def bs_nv (t : FieldType) (v : Value) : Value := match t with | .long => .long (bs_lv v) | .object _ => va_rf (bs_rv v) | .array _ => va_rf (bs_rv v) | _ => .int (bs_iv v)
def bs_fs (ci : Nat) (f : Nat → Value) : List Value := (List.range (bs_nf ci)).map (fun k => bs_nv (bs_ty ci k) (f k))
def bs_row (k n : Nat) (f : Nat → Value) : vp_A := (n, if k = 15 then .inr (.inl (fun j => bs_lv (f j))) else if 17 ≤ k then .inr (.inr (.inr (.inr (fun j => bs_rv (f j))))) else .inl (fun j => bs_iv (f j)))
def bs_ce (dA : Nat → ClassId) (sh : bs_Sh) (mu : bs_Mm) (a : Nat) : va_E := if (sh a).1 < 13 then .inr ((sh a).1, bs_fs (sh a).1 (mu a)) else .inl (dA (sh a).1, bs_row (sh a).1 (sh a).2 (mu a))
/-- the heap H holds the memory; all its cells lie in A -/
def bs_rp (D : va_G) (dA : Nat → ClassId) (A : Nat → Prop) (nx : Nat) (sh : bs_Sh) (mu : bs_Mm) (H : Heap) : Prop :=
  H.size = nx ∧ ∀ a, (sh a).1 < 19 → A a ∧ va_at D vwCl (a, bs_ce dA sh mu a) H
/-- which words of nest mates are used -/
def bs_nl : List (String × Nat × MethodName × String) := [("BalloonStall", 11, ({ cls := "BalloonStall$Sorts", name := "<init>", desc := "()V" } : Jvm.MethodName), "BalloonStall"), ("BalloonStall", 18, ({ cls := "BalloonStall$Tape", name := "<init>", desc := "()V" } : Jvm.MethodName), "BalloonStall"), ("BalloonStall", 37, ({ cls := "BalloonStall$FigureReader", name := "<init>", desc := "()V" } : Jvm.MethodName), "BalloonStall"), ("BalloonStall$FigureReader", 11, ({ cls := "BalloonStall$Figure", name := "<init>", desc := "()V" } : Jvm.MethodName), "BalloonStall"), ("BalloonStall", 44, ({ cls := "BalloonStall$RuleReader", name := "<init>", desc := "()V" } : Jvm.MethodName), "BalloonStall"), ("BalloonStall$RuleReader", 11, ({ cls := "BalloonStall$Rule", name := "<init>", desc := "()V" } : Jvm.MethodName), "BalloonStall"), ("BalloonStall", 51, ({ cls := "BalloonStall$Net", name := "<init>", desc := "()V" } : Jvm.MethodName), "BalloonStall"), ("BalloonStall", 58, ({ cls := "BalloonStall$Matcher", name := "<init>", desc := "()V" } : Jvm.MethodName), "BalloonStall"), ("BalloonStall", 72, ({ cls := "BalloonStall$Ageing", name := "<init>", desc := "()V" } : Jvm.MethodName), "BalloonStall"), ("BalloonStall", 79, ({ cls := "BalloonStall$Stall", name := "<init>", desc := "()V" } : Jvm.MethodName), "BalloonStall"), ("BalloonStall", 91, ({ cls := "BalloonStall$Figure", name := "<init>", desc := "()V" } : Jvm.MethodName), "BalloonStall"), ("BalloonStall", 92, ({ cls := "BalloonStall$Rule", name := "<init>", desc := "()V" } : Jvm.MethodName), "BalloonStall"), ("BalloonStall$FigureReader", 42, ({ cls := "BalloonStall", name := "isDigit", desc := "(I)Z" } : Jvm.MethodName), "BalloonStall"), ("BalloonStall$RuleReader", 74, ({ cls := "BalloonStall", name := "isDigit", desc := "(I)Z" } : Jvm.MethodName), "BalloonStall")]
def bs_tys (dA : Nat → ClassId) : List (ClassId × FieldType) := [(dA 13, .char), (dA 14, .int), (dA 15, .long), (dA 16, .boolean), (dA 17, .object "BalloonStall$Figure"), (dA 18, .object "BalloonStall$Rule")]
/-- what stays of the tables -/
def bs_K (D : va_G) (dA : Nat → ClassId) (U : State) : Prop :=
  va_K D vwCl (bs_tys dA) U ∧ va_AO "BalloonStall$Figure" U ∧ va_AO "BalloonStall$Rule" U ∧ ∀ q ∈ bs_nl, va_Nw (.methodLinkNest q.1 q.2.1 q.2.2.1 q.2.2.2) U
theorem bs_K.warm {D : va_G} {dA : Nat → ClassId} {s U : State} (hW : s.WarmedH U.vm) (h : bs_K D dA s) : bs_K D dA U :=
  ⟨va_K.moved hW.alike h.1, h.2.1.moved hW.alike, h.2.2.1.moved hW.alike, fun q hq => va_Nw.warmM hW (h.2.2.2 q hq)⟩
theorem bs_K.same {D : va_G} {dA : Nat → ClassId} {s U : State} (hv : s.vm = U.vm) (h : bs_K D dA s) : bs_K D dA U :=
  ⟨va_K.moved (by rw [hv]; exact Vm.Alike.refl U.vm) h.1, h.2.1.moved (by rw [hv]; exact Vm.Alike.refl U.vm), h.2.2.1.moved (by rw [hv]; exact Vm.Alike.refl U.vm), fun q hq => va_Nw.same rfl hv (h.2.2.2 q hq)⟩
/-- the tables' words that every method takes -/
def bs_al : List Cond := lw_tbl.filter goodWord
theorem bs_al_in {w : Cond} (h : w ∈ lw_tbl) (g : goodWord w = true) : w ∈ bs_al := List.mem_filter.mpr ⟨h, g⟩
theorem bs_al_good {ws : List Cond} (h : ∀ w ∈ ws, w ∈ bs_al) : GoodIn bs_al ws := fun w hw => ⟨h w hw, good_of_word (List.mem_filter.mp (h w hw)).2⟩
/-- a method: its name, code, locals, answer -/
abbrev bs_M : Type := MethodName × ByteArray × Nat × Option FieldType
def bs_ws (X : bs_M) : List Cond := .code X.1 X.2.1 X.2.2.1 X.2.2.2 :: bs_al
/-- the room of a method whose calls go d deep, that makes mc cells of ms slots -/
def bs_rm (d mc ms : Nat) : Room := { frames := d, cells := mc, slots := ms, locals := 41 * d }
/-- which cells a method may change -/
def bs_A (sh : bs_Sh) (nx : Nat) : Nat → Prop := fun q => (sh q).1 < 19 ∨ nx ≤ q
abbrev bs_Po : Type := Option Value → Nat → bs_Sh → bs_Mm → Prop
def bs_Q (Ph : bs_Po) (D : va_G) (dA : Nat → ClassId) (A : Nat → Prop) : Array Value → State → Outcome → State → Prop := fun _ st oc t =>
  (∃ (v : Option Value) (nx : Nat) (sh : bs_Sh) (mu : bs_Mm), oc = .returned v ∧ Ph v nx sh mu ∧ bs_rp D dA A nx sh mu t.heap) ∧ va_F A st t
def bs_Pc (D : va_G) (dA : Nat → ClassId) (av : List Value) (nx : Nat) (sh : bs_Sh) (mu : bs_Mm) : Array Value → State → Prop := va_Pc av (fun U => bs_K D dA U ∧ bs_rp D dA (fun _ => True) nx sh mu U.heap)
/-- A CONTRACT: from this memory, with these arguments, the method returns, and Ph holds of its answer and the memory behind it -/
def bs_C (X : bs_M) (rm : Room) (av : List Value) (nx : Nat) (sh : bs_Sh) (mu : bs_Mm) (Ph : bs_Po) : Prop :=
  ∀ (l : Launch) (D : va_G) (dA : Nat → ClassId), Met l X.1 (bs_ws X) rm (bs_Pc D dA av nx sh mu) (bs_Q Ph D dA (bs_A sh nx)) rm.cells rm.slots (bs_A sh nx)
/-- the locals: what each is known to hold -/
abbrev bs_L : Type := Nat → Option Value
def bs_mk (l : List (Nat × Value)) : bs_L := fun i => match l with | [] => none | q :: t => bif Nat.beq i q.1 then some q.2 else bs_mk t i
def bs_st (lo : bs_L) (i : Nat) (v : Value) : bs_L := fun j => bif Nat.beq j i then some v else lo j
def bs_st2 (lo : bs_L) (i : Nat) (v : Value) : bs_L := fun j => bif Nat.beq j i then some v else bif Nat.beq j (i + 1) then none else lo j
/-- behind what stands there no second half is lost -/
def bs_ok (lo : bs_L) (i : Nat) : Bool := match i with | 0 => true | k + 1 => match lo k with | some (.int _) => true | some (.ref _) => true | some .null => true | _ => false
def bs_li (n : Nat) (lo : bs_L) : List (Nat × Value) := (List.range n).filterMap (fun i => (lo i).map (fun v => (i, v)))
def bs_has (ls : Array Slot) (n : Nat) (lo : bs_L) : Prop := ls.size = n ∧ lv_wf ls ∧ ∀ i v, lo i = some v → ls[i]? = some (.val v)
/-- what is fixed while a method runs -/
def bs_F (p : Program) (s : State) (m : MethodId) (args : Array Value) (meth : Method) (c : Code) (X : bs_M) (D : va_G) (dA : Nat → ClassId) (A : Nat → Prop) : Prop :=
  p.tables.exec = Jvm.exec ∧ c.code = X.2.1 ∧ meth.sig.returnType = X.2.2.2 ∧ c.maxLocals = X.2.2.1 ∧ s.vm.findClass X.1.cls = some m.cls ∧ (∀ w ∈ bs_al, w.before args s = true) ∧ meth.locks = false ∧ meth.name = X.1.name ∧ bs_K D dA s ∧ ∀ q, s.heap.size ≤ q → A q
/-- what a walk is of: what is known of its start beside, and what is owed at its end -/
abbrev bs_Z : Type := (Launch → State → Array Value → (Nat → Prop) → Prop) × (State → Array Value → List Frame → va_G → (Nat → ClassId) → (Nat → Prop) → State → Prop)
/-- THE JUDGEMENT: at pc, with these locals, this stack, this memory, with nc cells of ns slots made: the walk Z of X comes to its end -/
def bs_V (Z : bs_Z) (X : bs_M) (rm : Room) (pc : Nat) (lo : bs_L) (st : List Value) (nc ns nx : Nat) (sh : bs_Sh) (mu : bs_Mm) : Prop :=
  ∀ (p : Program) (l : Launch) (e : Env) (s : State) (m : MethodId) (args : Array Value) (below : List Frame) (meth : Method) (c : Code) (D : va_G) (dA : Nat → ClassId) (A : Nat → Prop), bs_F p s m args meth c X D dA A → Z.1 l s args A →
    ∀ (H : Heap) (locs : List Loc) (ls : Array Slot), bs_rp D dA A nx sh mu H → va_S A s.heap H locs → bs_has ls X.2.2.1 lo →
      W p l e rm s m args below meth c H locs nc ns (Z.2 s args below D dA A) (F0 m pc ls st)
/-- a method's walk: it returns, and Ph holds -/
def bs_zm (Ph : bs_Po) (rm : Room) : bs_Z := (fun _ _ _ _ => True, fun s args below D dA A => MQ below (bs_Q Ph D dA A) args s rm.cells rm.slots A)
abbrev bs_W (Ph : bs_Po) (X : bs_M) (rm : Room) : Nat → bs_L → List Value → Nat → Nat → Nat → bs_Sh → bs_Mm → Prop := bs_V (bs_zm Ph rm) X rm
theorem bs_has.lv {ls : Array Slot} {n : Nat} {lo : bs_L} (h : bs_has ls n lo) : lv_has ls n (bs_li n lo) := by
  refine ⟨h.1, h.2.1, fun q hq => ?_⟩
  obtain ⟨i, -, hi⟩ := List.mem_filterMap.mp hq
  cases hv : lo i with
  | none => rw [hv] at hi; cases hi
  | some v => rw [hv] at hi; cases hi; exact h.2.2 i v hv
theorem bs_li_in {n i : Nat} {lo : bs_L} {v : Value} (hi : i < n) (h : lo i = some v) : (i, v) ∈ bs_li n lo :=
  List.mem_filterMap.mpr ⟨i, List.mem_range.mpr hi, by rw [h]; rfl⟩
theorem bs_has.lt {ls : Array Slot} {n : Nat} {lo : bs_L} (h : bs_has ls n lo) {i : Nat} {v : Value} (hi : lo i = some v) : i < n := by
  rw [← h.1]; exact (Array.getElem?_eq_some_iff.mp (h.2.2 i v hi)).1
theorem bs_has.sub {ls : Array Slot} {n : Nat} {lo lo' : bs_L} (h : bs_has ls n lo) (hs : ∀ i v, lo' i = some v → lo i = some v) : bs_has ls n lo' := ⟨h.1, h.2.1, fun i v hv => h.2.2 i v (hs i v hv)⟩
theorem bs_has.st {ls ls' : Array Slot} {n i : Nat} {lo : bs_L} {v : Value} (h0 : bs_has ls n lo) (hok : bs_ok lo i = true)
    (h : lv_has ls' n ((i, v) :: (bs_li n lo).filter (fun q => !(q.1 == i) && !(q.1 + 1 == i && q.2.category == 2)))) : bs_has ls' n (bs_st lo i v) := by
  refine ⟨h.1, h.2.1, fun j w hj => ?_⟩
  by_cases hji : j = i
  · subst hji
    have : w = v := by simpa [bs_st] using hj.symm
    subst this
    exact h.2.2 _ List.mem_cons_self
  · have hb : Nat.beq j i = false := by
      cases hq : Nat.beq j i with
      | true => exact absurd (Nat.eq_of_beq_eq_true hq) hji
      | false => rfl
    have hj' : lo j = some w := by simpa [bs_st, hb] using hj
    refine h.2.2 (j, w) (List.mem_cons_of_mem _ (List.mem_filter.mpr ⟨bs_li_in (h0.lt hj') hj', ?_⟩))
    have h1 : (j == i) = false := by simpa using hji
    simp only [h1, Bool.not_false, Bool.true_and, Bool.not_eq_true', Bool.and_eq_false_iff]
    by_cases hz : j + 1 = i
    · right
      subst hz
      have hok' : (match lo j with | some (.int _) => true | some (.ref _) => true | some .null => true | _ => false) = true := hok
      rw [hj'] at hok'
      cases w <;> first | rfl | (simp at hok')
    · left
      simpa using hz
theorem bs_has.st2 {ls ls' : Array Slot} {n i : Nat} {lo : bs_L} {v : Value} (h0 : bs_has ls n lo) (hok : bs_ok lo i = true)
    (h : lv_has ls' n ((i, v) :: (bs_li n lo).filter (fun q => !(q.1 == i) && (!(q.1 == i + 1) && !(q.1 + 1 == i && q.2.category == 2))))) : bs_has ls' n (bs_st2 lo i v) := by
  refine ⟨h.1, h.2.1, fun j w hj => ?_⟩
  by_cases hji : j = i
  · subst hji
    have : w = v := by simpa [bs_st2] using hj.symm
    subst this
    exact h.2.2 _ List.mem_cons_self
  · have hb : Nat.beq j i = false := by
      cases hq : Nat.beq j i with
      | true => exact absurd (Nat.eq_of_beq_eq_true hq) hji
      | false => rfl
    have hj2 : (bif Nat.beq j (i + 1) then none else lo j) = some w := by simpa [bs_st2, hb] using hj
    have hb2 : Nat.beq j (i + 1) = false := by
      cases hq : Nat.beq j (i + 1) with
      | true => rw [hq] at hj2; cases hj2
      | false => rfl
    have hji2 : j ≠ i + 1 := by
      intro z; subst z
      rw [show Nat.beq (i + 1) (i + 1) = true from Nat.beq_refl _] at hb2; cases hb2
    have hj' : lo j = some w := by rw [hb2] at hj2; exact hj2
    refine h.2.2 (j, w) (List.mem_cons_of_mem _ (List.mem_filter.mpr ⟨bs_li_in (h0.lt hj') hj', ?_⟩))
    have h1 : (j == i) = false := by simpa using hji
    have h2 : (j == i + 1) = false := by simpa using hji2
    simp only [h1, h2, Bool.not_false, Bool.true_and, Bool.not_eq_true', Bool.and_eq_false_iff]
    by_cases hz : j + 1 = i
    · right
      subst hz
      have hok' : (match lo j with | some (.int _) => true | some (.ref _) => true | some .null => true | _ => false) = true := hok
      rw [hj'] at hok'
      cases w <;> first | rfl | (simp at hok')
    · left
      simpa using hz
/-! what the memory is behind a write, a new cell, a copy -/
def bs_nm (nx : Nat) (mu : bs_Mm) : bs_Mm := fun b j => if b = nx then .null else mu b j
def bs_ns (nx k n : Nat) (sh : bs_Sh) : bs_Sh := fun b => if b = nx then (k, n) else sh b
def bs_cp (mu : bs_Mm) (a0 a1 sp dp n : Nat) : bs_Mm := fun b j => if b = a1 ∧ dp ≤ j ∧ j < dp + n then .int (bs_iv (mu a0 (sp + (j - dp)))) else mu b j
theorem bs_mk_in (l : List (Nat × Value)) (i : Nat) (v : Value) (h : bs_mk l i = some v) : (i, v) ∈ l := by
  induction l with
  | nil => cases h
  | cons q t ih =>
    cases hb : Nat.beq i q.1 with
    | true =>
      have h1 : bs_mk (q :: t) i = some q.2 := by simp [bs_mk, hb]
      rw [h1] at h
      cases h
      rw [Nat.eq_of_beq_eq_true hb]
      exact List.mem_cons_self
    | false =>
      have h1 : bs_mk (q :: t) i = bs_mk t i := by simp [bs_mk, hb]
      rw [h1] at h
      exact List.mem_cons_of_mem _ (ih h)
theorem bs_W.sub {Z : bs_Z} {X : bs_M} {rm : Room} {pc : Nat} {lo lo' : bs_L} {st : List Value} {nc ns nx : Nat} {sh : bs_Sh} {mu : bs_Mm} (hs : ∀ i v, lo' i = some v → lo i = some v) (k : bs_V Z X rm pc lo' st nc ns nx sh mu) : bs_V Z X rm pc lo st nc ns nx sh mu :=
  fun p l e s m args below meth c D dA A F hE H locs ls hP hS hl => k p l e s m args below meth c D dA A F hE H locs ls hP hS (hl.sub hs)
/-- fewer locals, told as a list -/
theorem bs_W.mk {Z : bs_Z} {X : bs_M} {rm : Room} {pc : Nat} {lo : bs_L} (l : List (Nat × Value)) {st : List Value} {nc ns nx : Nat} {sh : bs_Sh} {mu : bs_Mm} (hs : ∀ q ∈ l, lo q.1 = some q.2) (k : bs_V Z X rm pc (bs_mk l) st nc ns nx sh mu) : bs_V Z X rm pc lo st nc ns nx sh mu :=
  bs_W.sub (fun i v h => hs (i, v) (bs_mk_in l i v h)) k
theorem bs_W.eqm {Z : bs_Z} {X : bs_M} {rm : Room} {pc : Nat} {lo : bs_L} {st : List Value} {nc ns nx : Nat} {sh : bs_Sh} {mu mu' : bs_Mm} (h : mu = mu') (k : bs_V Z X rm pc lo st nc ns nx sh mu') : bs_V Z X rm pc lo st nc ns nx sh mu := h ▸ k
theorem bs_W.post {Ph Ph' : bs_Po} {X : bs_M} {rm : Room} {pc : Nat} {lo : bs_L} {st : List Value} {nc ns nx : Nat} {sh : bs_Sh} {mu : bs_Mm} (h : ∀ v n s m, Ph' v n s m → Ph v n s m) (k : bs_W Ph' X rm pc lo st nc ns nx sh mu) : bs_W Ph X rm pc lo st nc ns nx sh mu := by
  intro p l e s m args below meth c D dA A F hE H locs ls hP hS hl T hT X0
  obtain ⟨t, h1, o, h2, h3, ⟨⟨v, n, s', m', e1, e2, e3⟩, e4⟩, h5⟩ := k p l e s m args below meth c D dA A F hE H locs ls hP hS hl T hT X0
  exact ⟨t, h1, o, h2, h3, ⟨⟨v, n, s', m', e1, h _ _ _ _ e2, e3⟩, e4⟩, h5⟩
theorem bs_rp.weaken {D : va_G} {dA : Nat → ClassId} {A B : Nat → Prop} {nx : Nat} {sh : bs_Sh} {mu : bs_Mm} {H : Heap} (h : bs_rp D dA A nx sh mu H) (hAB : ∀ q, (sh q).1 < 19 → A q → B q) : bs_rp D dA B nx sh mu H := ⟨h.1, fun a ha => ⟨hAB a ha (h.2 a ha).1, (h.2 a ha).2⟩⟩
theorem bs_rp.self {D : va_G} {dA : Nat → ClassId} {A : Nat → Prop} {nx : Nat} {sh : bs_Sh} {mu : bs_Mm} {H : Heap} (h : bs_rp D dA A nx sh mu H) : bs_rp D dA (bs_A sh nx) nx sh mu H := h.weaken fun _ h1 _ => Or.inl h1
theorem bs_rp.lt {D : va_G} {dA : Nat → ClassId} {A : Nat → Prop} {nx : Nat} {sh : bs_Sh} {mu : bs_Mm} {H : Heap} (h : bs_rp D dA A nx sh mu H) {q : Nat} (hq : (sh q).1 < 19) : q < nx := by
  rw [← h.1]
  exact ((h.2 q hq).2).lt
theorem bs_rp.one {D : va_G} {dA : Nat → ClassId} {A : Nat → Prop} {nx : Nat} {sh : bs_Sh} {mu : bs_Mm} {H : Heap} (h : bs_rp D dA A nx sh mu H) {a : Nat} (ha : (sh a).1 < 19) : va_P D vwCl [(a, bs_ce dA sh mu a)] H := by
  intro k q hq
  have hk : k < 1 := (List.getElem?_eq_some_iff.mp hq).1
  rw [show k = 0 by omega] at hq
  cases hq
  exact (h.2 a ha).2
/-- one cell is another: the rest stays -/
theorem bs_rp.set {D : va_G} {dA : Nat → ClassId} {A : Nat → Prop} {nx : Nat} {sh : bs_Sh} {mu mu' : bs_Mm} {H H1 : Heap} (h : bs_rp D dA A nx sh mu H) {a : Nat} (hz : H1.size = H.size) (ho : ∀ q, q ≠ a → H1[q]? = H[q]?) (he : va_at D vwCl (a, bs_ce dA sh mu' a) H1) (hm : ∀ b, b ≠ a → bs_ce dA sh mu' b = bs_ce dA sh mu b) : bs_rp D dA A nx sh mu' H1 := by
  refine ⟨hz.trans h.1, fun b hb => ⟨(h.2 b hb).1, ?_⟩⟩
  by_cases hba : b = a
  · subst hba; exact he
  · rw [hm b hba]
    exact ((h.2 b hb).2).kept (ho b hba)
/-- one cell more -/
theorem bs_rp.push {D : va_G} {dA : Nat → ClassId} {A : Nat → Prop} {nx k n : Nat} {sh : bs_Sh} {mu : bs_Mm} {H H1 : Heap} (h : bs_rp D dA A nx sh mu H) (hA : A nx) (hz : H1.size = nx + 1) (ho : ∀ q, q < nx → H1[q]? = H[q]?) (he : va_at D vwCl (nx, bs_ce dA (bs_ns nx k n sh) (bs_nm nx mu) nx) H1) : bs_rp D dA A (nx + 1) (bs_ns nx k n sh) (bs_nm nx mu) H1 := by
  refine ⟨hz, fun b hb => ?_⟩
  by_cases hba : b = nx
  · subst hba; exact ⟨hA, he⟩
  · have h1 : bs_ns nx k n sh b = sh b := by simp [bs_ns, hba]
    have h2 : bs_nm nx mu b = mu b := by funext j; simp [bs_nm, hba]
    rw [h1] at hb
    have h3 : bs_ce dA (bs_ns nx k n sh) (bs_nm nx mu) b = bs_ce dA sh mu b := by unfold bs_ce; rw [h1, h2]
    rw [h3]
    exact ⟨(h.2 b hb).1, ((h.2 b hb).2).kept (ho b (h.lt hb))⟩
/-- the addresses of the memory lie below the heap's end -/
def bs_lt (nx : Nat) (sh : bs_Sh) : Prop := ∀ q, (sh q).1 < 19 → q < nx
theorem bs_W.lt {Z : bs_Z} {X : bs_M} {rm : Room} {pc : Nat} {lo : bs_L} {st : List Value} {nc ns nx : Nat} {sh : bs_Sh} {mu : bs_Mm} (k : bs_lt nx sh → bs_V Z X rm pc lo st nc ns nx sh mu) : bs_V Z X rm pc lo st nc ns nx sh mu :=
  fun p l e s m args below meth c D dA A F hE H locs ls hP hS hl => k (fun _ h => hP.lt h) p l e s m args below meth c D dA A F hE H locs ls hP hS hl
theorem bs_ce_ne {dA : Nat → ClassId} {sh : bs_Sh} {mu : bs_Mm} {a k b : Nat} {v : Value} (h : b ≠ a) : bs_ce dA sh (bs_up mu a k v) b = bs_ce dA sh mu b := by
  have : (bs_up mu a k v) b = mu b := by funext j; simp [bs_up, h]
  unfold bs_ce
  rw [this]
theorem bs_fs_set {ci k : Nat} {mu : bs_Mm} {a : Nat} {v : Value} (hk : k < bs_nf ci) (hv : bs_nv (bs_ty ci k) v = v) : bs_fs ci ((bs_up mu a k v) a) = (bs_fs ci (mu a)).set k v := by
  apply List.ext_getElem?
  intro j
  by_cases hj : j = k
  · subst hj
    rw [List.getElem?_set_self (by simp [bs_fs, hk])]
    simp [bs_fs, hk, bs_up, hv]
  · rw [List.getElem?_set_ne (Ne.symm hj)]
    by_cases hlt : j < bs_nf ci
    · simp [bs_fs, hlt, bs_up, hj]
    · simp [bs_fs, hlt]
theorem bs_fs_at {ci k : Nat} {f : Nat → Value} (hk : k < bs_nf ci) : (bs_fs ci f)[k]? = some (bs_nv (bs_ty ci k) (f k)) := by simp [bs_fs, hk]
theorem bs_fs_len {ci : Nat} {f : Nat → Value} : (bs_fs ci f).length = bs_nf ci := by simp [bs_fs]
theorem bs_iw0 : ∀ w ∈ u_ws RX0 TX0 7, w ∈ bs_al := by decide +kernel
theorem bs_iw1 : ∀ w ∈ u_ws RX1 TX1 10, w ∈ bs_al := by decide +kernel
theorem bs_iw2 : ∀ w ∈ u_ws RX2 TX2 11, w ∈ bs_al := by decide +kernel
theorem bs_iw3 : ∀ w ∈ u_ws RX3 TX3 8, w ∈ bs_al := by decide +kernel
theorem bs_iw4 : ∀ w ∈ u_ws RX4 TX4 10, w ∈ bs_al := by decide +kernel
theorem bs_iw5 : ∀ w ∈ u_ws RX5 TX5 3, w ∈ bs_al := by decide +kernel
theorem bs_iw6 : ∀ w ∈ u_ws RX6 TX6 2, w ∈ bs_al := by decide +kernel
theorem bs_iw7 : ∀ w ∈ u_ws RX7 TX7 11, w ∈ bs_al := by decide +kernel
theorem bs_iw8 : ∀ w ∈ u_ws RX8 TX8 4, w ∈ bs_al := by decide +kernel
theorem bs_iw9 : ∀ w ∈ u_ws RX9 TX9 15, w ∈ bs_al := by decide +kernel
theorem bs_iw10 : ∀ w ∈ u_ws RX10 TX10 2, w ∈ bs_al := by decide +kernel
theorem bs_iw11 : ∀ w ∈ u_ws RX11 TX11 15, w ∈ bs_al := by decide +kernel
theorem bs_iw12 : ∀ w ∈ u_ws RX12 TX12 52, w ∈ bs_al := by decide +kernel
theorem bs_tab (ci : Nat) (q : vw_C) (h : vwCl[ci]? = some q) : q.2.2 = bs_nf ci ∧ (∀ k, k < q.2.2 → parseFieldDescriptor (q.2.1 k).2.2.1 = some (bs_ty ci k)) ∧ (∀ a, a < q.2.2 → ∀ b, b < q.2.2 → a ≠ b → (q.2.1 a).2.1 ≠ (q.2.1 b).2.1) ∧ ∀ w ∈ u_ws q.1 q.2.1 q.2.2, w ∈ bs_al := by
  match ci, h with
  | 0, h =>
    have h2 : some ((RX0, TX0, 7) : vw_C) = some q := h
    cases h2
    exact ⟨rfl, tyX0_ok, nmX0, bs_iw0⟩
  | 1, h =>
    have h2 : some ((RX1, TX1, 10) : vw_C) = some q := h
    cases h2
    exact ⟨rfl, tyX1_ok, nmX1, bs_iw1⟩
  | 2, h =>
    have h2 : some ((RX2, TX2, 11) : vw_C) = some q := h
    cases h2
    exact ⟨rfl, tyX2_ok, nmX2, bs_iw2⟩
  | 3, h =>
    have h2 : some ((RX3, TX3, 8) : vw_C) = some q := h
    cases h2
    exact ⟨rfl, tyX3_ok, nmX3, bs_iw3⟩
  | 4, h =>
    have h2 : some ((RX4, TX4, 10) : vw_C) = some q := h
    cases h2
    exact ⟨rfl, tyX4_ok, nmX4, bs_iw4⟩
  | 5, h =>
    have h2 : some ((RX5, TX5, 3) : vw_C) = some q := h
    cases h2
    exact ⟨rfl, tyX5_ok, nmX5, bs_iw5⟩
  | 6, h =>
    have h2 : some ((RX6, TX6, 2) : vw_C) = some q := h
    cases h2
    exact ⟨rfl, tyX6_ok, nmX6, bs_iw6⟩
  | 7, h =>
    have h2 : some ((RX7, TX7, 11) : vw_C) = some q := h
    cases h2
    exact ⟨rfl, tyX7_ok, nmX7, bs_iw7⟩
  | 8, h =>
    have h2 : some ((RX8, TX8, 4) : vw_C) = some q := h
    cases h2
    exact ⟨rfl, tyX8_ok, nmX8, bs_iw8⟩
  | 9, h =>
    have h2 : some ((RX9, TX9, 15) : vw_C) = some q := h
    cases h2
    exact ⟨rfl, tyX9_ok, nmX9, bs_iw9⟩
  | 10, h =>
    have h2 : some ((RX10, TX10, 2) : vw_C) = some q := h
    cases h2
    exact ⟨rfl, tyX10_ok, nmX10, bs_iw10⟩
  | 11, h =>
    have h2 : some ((RX11, TX11, 15) : vw_C) = some q := h
    cases h2
    exact ⟨rfl, tyX11_ok, nmX11, bs_iw11⟩
  | 12, h =>
    have h2 : some ((RX12, TX12, 52) : vw_C) = some q := h
    cases h2
    exact ⟨rfl, tyX12_ok, nmX12, bs_iw12⟩
  | k + 13, h => simp [vwCl] at h
/-- a field's word: in the class own the place ix of the pool names field k of class ci -/
def bs_gf (own : String) (ix ci k : Nat) : Prop := ci < 13 ∧ ∃ q : vw_C, vwCl[ci]? = some q ∧ k < q.2.2 ∧ Cond.fieldLink own ix (q.2.1 k).1 (q.2.1 k).2.1 (q.2.1 k).2.2.1 ∈ bs_al
/-- whole numbers .. references .. longs -/
def bs_gi (own : String) (ix ci k : Nat) : Prop := bs_gf own ix ci k ∧ ∀ v, bs_nv (bs_ty ci k) v = .int (bs_iv v)
def bs_gr (own : String) (ix ci k : Nat) : Prop := bs_gf own ix ci k ∧ ∀ v, bs_nv (bs_ty ci k) v = va_rf (bs_rv v)
def bs_gl (own : String) (ix ci k : Nat) : Prop := bs_gf own ix ci k ∧ ∀ v, bs_nv (bs_ty ci k) v = .long (bs_lv v)
/-- a field that may be written -/
def bs_nfin (ci k : Nat) : Prop := ∀ q : vw_C, vwCl[ci]? = some q → (q.2.1 k).2.2.2 = false
def bs_fin (own : String) (ci k : Nat) : Prop := ∀ q : vw_C, vwCl[ci]? = some q → (q.2.1 k).2.2.2 = true ∧ (q.2.1 k).1 = own
section BSR
variable {Ph : bs_Po} {Z : bs_Z} {X : bs_M} {rm : Room} {pc : Nat} {lo : bs_L} {st rest : List Value} {nc ns nx : Nat} {sh : bs_Sh} {mu : bs_Mm}
theorem bs_iadd {x y : Int32} (d : decode X.2.1 pc = .ok (.iadd, 1))  (k : bs_V Z X rm (pc + 1) lo (.int (x + y) :: rest) nc ns nx sh mu) : bs_V Z X rm pc lo (.int y :: .int x :: rest) nc ns nx sh mu := fun p l e s m args below meth c D dA A F hE H locs ls hP hS hl => lv_iadd F.1 F.2.1 d (k p l e s m args below meth c D dA A F hE H locs ls hP hS hl)
theorem bs_isub {x y : Int32} (d : decode X.2.1 pc = .ok (.isub, 1))  (k : bs_V Z X rm (pc + 1) lo (.int (x - y) :: rest) nc ns nx sh mu) : bs_V Z X rm pc lo (.int y :: .int x :: rest) nc ns nx sh mu := fun p l e s m args below meth c D dA A F hE H locs ls hP hS hl => lv_isub F.1 F.2.1 d (k p l e s m args below meth c D dA A F hE H locs ls hP hS hl)
theorem bs_imul {x y : Int32} (d : decode X.2.1 pc = .ok (.imul, 1))  (k : bs_V Z X rm (pc + 1) lo (.int (x * y) :: rest) nc ns nx sh mu) : bs_V Z X rm pc lo (.int y :: .int x :: rest) nc ns nx sh mu := fun p l e s m args below meth c D dA A F hE H locs ls hP hS hl => lv_imul F.1 F.2.1 d (k p l e s m args below meth c D dA A F hE H locs ls hP hS hl)
theorem bs_iand {x y : Int32} (d : decode X.2.1 pc = .ok (.iand, 1))  (k : bs_V Z X rm (pc + 1) lo (.int (x &&& y) :: rest) nc ns nx sh mu) : bs_V Z X rm pc lo (.int y :: .int x :: rest) nc ns nx sh mu := fun p l e s m args below meth c D dA A F hE H locs ls hP hS hl => lv_iand F.1 F.2.1 d (k p l e s m args below meth c D dA A F hE H locs ls hP hS hl)
theorem bs_ior {x y : Int32} (d : decode X.2.1 pc = .ok (.ior, 1))  (k : bs_V Z X rm (pc + 1) lo (.int (x ||| y) :: rest) nc ns nx sh mu) : bs_V Z X rm pc lo (.int y :: .int x :: rest) nc ns nx sh mu := fun p l e s m args below meth c D dA A F hE H locs ls hP hS hl => lv_ior F.1 F.2.1 d (k p l e s m args below meth c D dA A F hE H locs ls hP hS hl)
theorem bs_ixor {x y : Int32} (d : decode X.2.1 pc = .ok (.ixor, 1))  (k : bs_V Z X rm (pc + 1) lo (.int (x ^^^ y) :: rest) nc ns nx sh mu) : bs_V Z X rm pc lo (.int y :: .int x :: rest) nc ns nx sh mu := fun p l e s m args below meth c D dA A F hE H locs ls hP hS hl => lv_ixor F.1 F.2.1 d (k p l e s m args below meth c D dA A F hE H locs ls hP hS hl)
theorem bs_idiv {x y : Int32} (d : decode X.2.1 pc = .ok (.idiv, 1)) (hne : ¬ y = 0) (k : bs_V Z X rm (pc + 1) lo (.int (x / y) :: rest) nc ns nx sh mu) : bs_V Z X rm pc lo (.int y :: .int x :: rest) nc ns nx sh mu := fun p l e s m args below meth c D dA A F hE H locs ls hP hS hl => lv_idiv F.1 F.2.1 d hne (k p l e s m args below meth c D dA A F hE H locs ls hP hS hl)
theorem bs_irem {x y : Int32} (d : decode X.2.1 pc = .ok (.irem, 1)) (hne : ¬ y = 0) (k : bs_V Z X rm (pc + 1) lo (.int (x - (x / y) * y) :: rest) nc ns nx sh mu) : bs_V Z X rm pc lo (.int y :: .int x :: rest) nc ns nx sh mu := fun p l e s m args below meth c D dA A F hE H locs ls hP hS hl => lv_irem F.1 F.2.1 d hne (k p l e s m args below meth c D dA A F hE H locs ls hP hS hl)
theorem bs_ineg {x : Int32} (d : decode X.2.1 pc = .ok (.ineg, 1))  (k : bs_V Z X rm (pc + 1) lo (.int (-x) :: rest) nc ns nx sh mu) : bs_V Z X rm pc lo (.int x :: rest) nc ns nx sh mu := fun p l e s m args below meth c D dA A F hE H locs ls hP hS hl => lv_ineg F.1 F.2.1 d (k p l e s m args below meth c D dA A F hE H locs ls hP hS hl)
theorem bs_ishl {x y : Int32} (d : decode X.2.1 pc = .ok (.ishl, 1))  (k : bs_V Z X rm (pc + 1) lo (.int (x <<< (y &&& 31)) :: rest) nc ns nx sh mu) : bs_V Z X rm pc lo (.int y :: .int x :: rest) nc ns nx sh mu := fun p l e s m args below meth c D dA A F hE H locs ls hP hS hl => lv_ishl F.1 F.2.1 d (k p l e s m args below meth c D dA A F hE H locs ls hP hS hl)
theorem bs_ishr {x y : Int32} (d : decode X.2.1 pc = .ok (.ishr, 1))  (k : bs_V Z X rm (pc + 1) lo (.int (x >>> (y &&& 31)) :: rest) nc ns nx sh mu) : bs_V Z X rm pc lo (.int y :: .int x :: rest) nc ns nx sh mu := fun p l e s m args below meth c D dA A F hE H locs ls hP hS hl => lv_ishr F.1 F.2.1 d (k p l e s m args below meth c D dA A F hE H locs ls hP hS hl)
theorem bs_iushr {x y : Int32} (d : decode X.2.1 pc = .ok (.iushr, 1))  (k : bs_V Z X rm (pc + 1) lo (.int ((x.toUInt32 >>> (y.toUInt32 &&& Int32.toUInt32 31)).toInt32) :: rest) nc ns nx sh mu) : bs_V Z X rm pc lo (.int y :: .int x :: rest) nc ns nx sh mu := fun p l e s m args below meth c D dA A F hE H locs ls hP hS hl => lv_iushr F.1 F.2.1 d rfl (k p l e s m args below meth c D dA A F hE H locs ls hP hS hl)
theorem bs_ladd {x y : Int64} (d : decode X.2.1 pc = .ok (.ladd, 1))  (k : bs_V Z X rm (pc + 1) lo (.long (x + y) :: rest) nc ns nx sh mu) : bs_V Z X rm pc lo (.long y :: .long x :: rest) nc ns nx sh mu := fun p l e s m args below meth c D dA A F hE H locs ls hP hS hl => lv_ladd F.1 F.2.1 d (k p l e s m args below meth c D dA A F hE H locs ls hP hS hl)
theorem bs_lsub {x y : Int64} (d : decode X.2.1 pc = .ok (.lsub, 1))  (k : bs_V Z X rm (pc + 1) lo (.long (x - y) :: rest) nc ns nx sh mu) : bs_V Z X rm pc lo (.long y :: .long x :: rest) nc ns nx sh mu := fun p l e s m args below meth c D dA A F hE H locs ls hP hS hl => lv_lsub F.1 F.2.1 d (k p l e s m args below meth c D dA A F hE H locs ls hP hS hl)
theorem bs_lmul {x y : Int64} (d : decode X.2.1 pc = .ok (.lmul, 1))  (k : bs_V Z X rm (pc + 1) lo (.long (x * y) :: rest) nc ns nx sh mu) : bs_V Z X rm pc lo (.long y :: .long x :: rest) nc ns nx sh mu := fun p l e s m args below meth c D dA A F hE H locs ls hP hS hl => lv_lmul F.1 F.2.1 d (k p l e s m args below meth c D dA A F hE H locs ls hP hS hl)
theorem bs_land {x y : Int64} (d : decode X.2.1 pc = .ok (.land, 1))  (k : bs_V Z X rm (pc + 1) lo (.long (x &&& y) :: rest) nc ns nx sh mu) : bs_V Z X rm pc lo (.long y :: .long x :: rest) nc ns nx sh mu := fun p l e s m args below meth c D dA A F hE H locs ls hP hS hl => lv_land F.1 F.2.1 d (k p l e s m args below meth c D dA A F hE H locs ls hP hS hl)
theorem bs_lor {x y : Int64} (d : decode X.2.1 pc = .ok (.lor, 1))  (k : bs_V Z X rm (pc + 1) lo (.long (x ||| y) :: rest) nc ns nx sh mu) : bs_V Z X rm pc lo (.long y :: .long x :: rest) nc ns nx sh mu := fun p l e s m args below meth c D dA A F hE H locs ls hP hS hl => lv_lor F.1 F.2.1 d (k p l e s m args below meth c D dA A F hE H locs ls hP hS hl)
theorem bs_ldiv {x y : Int64} (d : decode X.2.1 pc = .ok (.ldiv, 1)) (hne : ¬ y = 0) (k : bs_V Z X rm (pc + 1) lo (.long (x / y) :: rest) nc ns nx sh mu) : bs_V Z X rm pc lo (.long y :: .long x :: rest) nc ns nx sh mu := fun p l e s m args below meth c D dA A F hE H locs ls hP hS hl => lv_ldiv F.1 F.2.1 d hne (k p l e s m args below meth c D dA A F hE H locs ls hP hS hl)
theorem bs_lrem {x y : Int64} (d : decode X.2.1 pc = .ok (.lrem, 1)) (hne : ¬ y = 0) (k : bs_V Z X rm (pc + 1) lo (.long (x - (x / y) * y) :: rest) nc ns nx sh mu) : bs_V Z X rm pc lo (.long y :: .long x :: rest) nc ns nx sh mu := fun p l e s m args below meth c D dA A F hE H locs ls hP hS hl => lv_lrem F.1 F.2.1 d hne (k p l e s m args below meth c D dA A F hE H locs ls hP hS hl)
theorem bs_lushr {x : Int64} {y : Int32} (d : decode X.2.1 pc = .ok (.lushr, 1))  (k : bs_V Z X rm (pc + 1) lo (.long ((x.toUInt64 >>> (y.toInt64.toUInt64 &&& Int64.toUInt64 63)).toInt64) :: rest) nc ns nx sh mu) : bs_V Z X rm pc lo (.int y :: .long x :: rest) nc ns nx sh mu := fun p l e s m args below meth c D dA A F hE H locs ls hP hS hl => lv_lushr F.1 F.2.1 d rfl (k p l e s m args below meth c D dA A F hE H locs ls hP hS hl)
theorem bs_lshl {x : Int64} {y : Int32} (d : decode X.2.1 pc = .ok (.lshl, 1))  (k : bs_V Z X rm (pc + 1) lo (.long (x <<< (y.toInt64 &&& 63)) :: rest) nc ns nx sh mu) : bs_V Z X rm pc lo (.int y :: .long x :: rest) nc ns nx sh mu := fun p l e s m args below meth c D dA A F hE H locs ls hP hS hl => lv_lshl F.1 F.2.1 d rfl (k p l e s m args below meth c D dA A F hE H locs ls hP hS hl)
theorem bs_i2l {x : Int32} (d : decode X.2.1 pc = .ok (.i2l, 1))  (k : bs_V Z X rm (pc + 1) lo (.long x.toInt64 :: rest) nc ns nx sh mu) : bs_V Z X rm pc lo (.int x :: rest) nc ns nx sh mu := fun p l e s m args below meth c D dA A F hE H locs ls hP hS hl => lv_i2l F.1 F.2.1 d rfl (k p l e s m args below meth c D dA A F hE H locs ls hP hS hl)
theorem bs_l2i {x : Int64} (d : decode X.2.1 pc = .ok (.l2i, 1))  (k : bs_V Z X rm (pc + 1) lo (.int x.toInt32 :: rest) nc ns nx sh mu) : bs_V Z X rm pc lo (.long x :: rest) nc ns nx sh mu := fun p l e s m args below meth c D dA A F hE H locs ls hP hS hl => lv_l2i F.1 F.2.1 d rfl (k p l e s m args below meth c D dA A F hE H locs ls hP hS hl)
theorem bs_i2c {x : Int32} (d : decode X.2.1 pc = .ok (.i2c, 1))  (k : bs_V Z X rm (pc + 1) lo (.int (x.toUInt32 % 65536).toInt32 :: rest) nc ns nx sh mu) : bs_V Z X rm pc lo (.int x :: rest) nc ns nx sh mu := fun p l e s m args below meth c D dA A F hE H locs ls hP hS hl => lv_i2c F.1 F.2.1 d rfl (k p l e s m args below meth c D dA A F hE H locs ls hP hS hl)
theorem bs_dup {v : Value} (d : decode X.2.1 pc = .ok (.dup, 1)) (hv : v.category = 1) (k : bs_V Z X rm (pc + 1) lo (v :: v :: rest) nc ns nx sh mu) : bs_V Z X rm pc lo (v :: rest) nc ns nx sh mu := fun p l e s m args below meth c D dA A F hE H locs ls hP hS hl => lv_dup F.1 F.2.1 d hv (k p l e s m args below meth c D dA A F hE H locs ls hP hS hl)
theorem bs_dup_x1 {v w : Value} (d : decode X.2.1 pc = .ok (.dup_x1, 1)) (hv : v.category = 1) (hw : w.category = 1) (k : bs_V Z X rm (pc + 1) lo (v :: w :: v :: rest) nc ns nx sh mu) : bs_V Z X rm pc lo (v :: w :: rest) nc ns nx sh mu := fun p l e s m args below meth c D dA A F hE H locs ls hP hS hl => lv_dup_x1 F.1 F.2.1 d hv hw (k p l e s m args below meth c D dA A F hE H locs ls hP hS hl)
theorem bs_dup2 {v w : Value} (d : decode X.2.1 pc = .ok (.dup2, 1)) (hv : v.category = 1) (hw : w.category = 1) (k : bs_V Z X rm (pc + 1) lo (v :: w :: v :: w :: rest) nc ns nx sh mu) : bs_V Z X rm pc lo (v :: w :: rest) nc ns nx sh mu := fun p l e s m args below meth c D dA A F hE H locs ls hP hS hl => lv_dup2_11 F.1 F.2.1 d hv hw (k p l e s m args below meth c D dA A F hE H locs ls hP hS hl)
theorem bs_dup2l {v : Value} (d : decode X.2.1 pc = .ok (.dup2, 1)) (hv : v.category = 2) (k : bs_V Z X rm (pc + 1) lo (v :: v :: rest) nc ns nx sh mu) : bs_V Z X rm pc lo (v :: rest) nc ns nx sh mu := fun p l e s m args below meth c D dA A F hE H locs ls hP hS hl => lv_dup2_2 F.1 F.2.1 d hv (k p l e s m args below meth c D dA A F hE H locs ls hP hS hl)
theorem bs_pop {v : Value} (d : decode X.2.1 pc = .ok (.pop, 1)) (hv : v.category = 1) (k : bs_V Z X rm (pc + 1) lo (rest) nc ns nx sh mu) : bs_V Z X rm pc lo (v :: rest) nc ns nx sh mu := fun p l e s m args below meth c D dA A F hE H locs ls hP hS hl => lv_pop F.1 F.2.1 d hv (k p l e s m args below meth c D dA A F hE H locs ls hP hS hl)
theorem bs_null  (d : decode X.2.1 pc = .ok (.aconst_null, 1))  (k : bs_V Z X rm (pc + 1) lo (.null :: rest) nc ns nx sh mu) : bs_V Z X rm pc lo (rest) nc ns nx sh mu := fun p l e s m args below meth c D dA A F hE H locs ls hP hS hl => lv_null F.1 F.2.1 d (k p l e s m args below meth c D dA A F hE H locs ls hP hS hl)
theorem bs_iconst {n : Int} {v : Int32} (d : decode X.2.1 pc = .ok (.iconst n, 1)) (hv : Int32.ofInt n = v) (k : bs_V Z X rm (pc + 1) lo (.int v :: rest) nc ns nx sh mu) : bs_V Z X rm pc lo (rest) nc ns nx sh mu := fun p l e s m args below meth c D dA A F hE H locs ls hP hS hl => lv_iconst F.1 F.2.1 d hv (k p l e s m args below meth c D dA A F hE H locs ls hP hS hl)
theorem bs_bipush {n : Int} {v : Int32} (d : decode X.2.1 pc = .ok (.bipush n, 2)) (hv : (Int8.ofInt n).toInt32 = v) (k : bs_V Z X rm (pc + 2) lo (.int v :: rest) nc ns nx sh mu) : bs_V Z X rm pc lo (rest) nc ns nx sh mu := fun p l e s m args below meth c D dA A F hE H locs ls hP hS hl => lv_bipush F.1 F.2.1 d hv (k p l e s m args below meth c D dA A F hE H locs ls hP hS hl)
theorem bs_sipush {n : Int} {v : Int32} (d : decode X.2.1 pc = .ok (.sipush n, 3)) (hv : (Int16.ofInt n).toInt32 = v) (k : bs_V Z X rm (pc + 3) lo (.int v :: rest) nc ns nx sh mu) : bs_V Z X rm pc lo (rest) nc ns nx sh mu := fun p l e s m args below meth c D dA A F hE H locs ls hP hS hl => lv_sipush F.1 F.2.1 d hv (k p l e s m args below meth c D dA A F hE H locs ls hP hS hl)
theorem bs_lconst {n : Fin 2} {v : Int64} (d : decode X.2.1 pc = .ok (.lconst n, 1)) (hv : Int64.ofNat (n : Nat) = v) (k : bs_V Z X rm (pc + 1) lo (.long v :: rest) nc ns nx sh mu) : bs_V Z X rm pc lo (rest) nc ns nx sh mu := fun p l e s m args below meth c D dA A F hE H locs ls hP hS hl => lv_lconst F.1 F.2.1 d hv (k p l e s m args below meth c D dA A F hE H locs ls hP hS hl)
theorem bs_iload_n {k0 : Fin 4} {x : Int32} (d : decode X.2.1 pc = .ok (.iload_n k0, 1)) (hv : lo (k0 : Nat) = some (.int x)) (k : bs_V Z X rm (pc + 1) lo (.int x :: rest) nc ns nx sh mu) : bs_V Z X rm pc lo (rest) nc ns nx sh mu := fun p l e s m args below meth c D dA A F hE H locs ls hP hS hl => lv_iload_n F.1 F.2.1 d rfl (hl.2.2 _ _ hv) (k p l e s m args below meth c D dA A F hE H locs ls hP hS hl)
theorem bs_iload {k0 : Nat} {x : Int32} (d : decode X.2.1 pc = .ok (.iload k0, 2)) (hv : lo k0 = some (.int x)) (k : bs_V Z X rm (pc + 2) lo (.int x :: rest) nc ns nx sh mu) : bs_V Z X rm pc lo (rest) nc ns nx sh mu := fun p l e s m args below meth c D dA A F hE H locs ls hP hS hl => lv_iload F.1 F.2.1 d (hl.2.2 _ _ hv) (k p l e s m args below meth c D dA A F hE H locs ls hP hS hl)
theorem bs_aload_n {k0 : Fin 4} {x : Nat} (d : decode X.2.1 pc = .ok (.aload_n k0, 1)) (hv : lo (k0 : Nat) = some (.ref x)) (k : bs_V Z X rm (pc + 1) lo (.ref x :: rest) nc ns nx sh mu) : bs_V Z X rm pc lo (rest) nc ns nx sh mu := fun p l e s m args below meth c D dA A F hE H locs ls hP hS hl => lv_aload_n F.1 F.2.1 d rfl (hl.2.2 _ _ hv) (k p l e s m args below meth c D dA A F hE H locs ls hP hS hl)
theorem bs_aload {k0 : Nat} {x : Nat} (d : decode X.2.1 pc = .ok (.aload k0, 2)) (hv : lo k0 = some (.ref x)) (k : bs_V Z X rm (pc + 2) lo (.ref x :: rest) nc ns nx sh mu) : bs_V Z X rm pc lo (rest) nc ns nx sh mu := fun p l e s m args below meth c D dA A F hE H locs ls hP hS hl => lv_aload F.1 F.2.1 d (hl.2.2 _ _ hv) (k p l e s m args below meth c D dA A F hE H locs ls hP hS hl)
theorem bs_lload_n {k0 : Fin 4} {x : Int64} (d : decode X.2.1 pc = .ok (.lload_n k0, 1)) (hv : lo (k0 : Nat) = some (.long x)) (k : bs_V Z X rm (pc + 1) lo (.long x :: rest) nc ns nx sh mu) : bs_V Z X rm pc lo (rest) nc ns nx sh mu := fun p l e s m args below meth c D dA A F hE H locs ls hP hS hl => lv_lload_n F.1 F.2.1 d rfl (hl.2.2 _ _ hv) (k p l e s m args below meth c D dA A F hE H locs ls hP hS hl)
theorem bs_lload {k0 : Nat} {x : Int64} (d : decode X.2.1 pc = .ok (.lload k0, 2)) (hv : lo k0 = some (.long x)) (k : bs_V Z X rm (pc + 2) lo (.long x :: rest) nc ns nx sh mu) : bs_V Z X rm pc lo (rest) nc ns nx sh mu := fun p l e s m args below meth c D dA A F hE H locs ls hP hS hl => lv_lload F.1 F.2.1 d (hl.2.2 _ _ hv) (k p l e s m args below meth c D dA A F hE H locs ls hP hS hl)
theorem bs_istore_n {k0 : Fin 4} {x : Int32} (d : decode X.2.1 pc = .ok (.istore_n k0, 1)) (hok : bs_ok lo (k0 : Nat) = true) (hn : (k0 : Nat) < X.2.2.1) (k : bs_V Z X rm (pc + 1) (bs_st lo (k0 : Nat) (.int x)) rest nc ns nx sh mu) : bs_V Z X rm pc lo (.int x :: rest) nc ns nx sh mu := fun p l e s m args below meth c D dA A F hE H locs ls hP hS hl => lv_istore_n F.1 F.2.1 d rfl hl.lv hn rfl (fun ls' h' => k p l e s m args below meth c D dA A F hE H locs ls' hP hS (hl.st hok h'))
theorem bs_istore {k0 : Nat} {x : Int32} (d : decode X.2.1 pc = .ok (.istore k0, 2)) (hok : bs_ok lo k0 = true) (hn : k0 < X.2.2.1) (k : bs_V Z X rm (pc + 2) (bs_st lo k0 (.int x)) rest nc ns nx sh mu) : bs_V Z X rm pc lo (.int x :: rest) nc ns nx sh mu := fun p l e s m args below meth c D dA A F hE H locs ls hP hS hl => lv_istore F.1 F.2.1 d hl.lv hn rfl (fun ls' h' => k p l e s m args below meth c D dA A F hE H locs ls' hP hS (hl.st hok h'))
theorem bs_astore_n {k0 : Fin 4} {x : Nat} (d : decode X.2.1 pc = .ok (.astore_n k0, 1)) (hok : bs_ok lo (k0 : Nat) = true) (hn : (k0 : Nat) < X.2.2.1) (k : bs_V Z X rm (pc + 1) (bs_st lo (k0 : Nat) (.ref x)) rest nc ns nx sh mu) : bs_V Z X rm pc lo (.ref x :: rest) nc ns nx sh mu := fun p l e s m args below meth c D dA A F hE H locs ls hP hS hl => lv_astore_n F.1 F.2.1 d rfl hl.lv hn rfl (fun ls' h' => k p l e s m args below meth c D dA A F hE H locs ls' hP hS (hl.st hok h'))
theorem bs_astore {k0 : Nat} {x : Nat} (d : decode X.2.1 pc = .ok (.astore k0, 2)) (hok : bs_ok lo k0 = true) (hn : k0 < X.2.2.1) (k : bs_V Z X rm (pc + 2) (bs_st lo k0 (.ref x)) rest nc ns nx sh mu) : bs_V Z X rm pc lo (.ref x :: rest) nc ns nx sh mu := fun p l e s m args below meth c D dA A F hE H locs ls hP hS hl => lv_astore F.1 F.2.1 d hl.lv hn rfl (fun ls' h' => k p l e s m args below meth c D dA A F hE H locs ls' hP hS (hl.st hok h'))
theorem bs_lstore_n {k0 : Fin 4} {x : Int64} (d : decode X.2.1 pc = .ok (.lstore_n k0, 1)) (hok : bs_ok lo (k0 : Nat) = true) (hn : (k0 : Nat) + 1 < X.2.2.1) (k : bs_V Z X rm (pc + 1) (bs_st2 lo (k0 : Nat) (.long x)) rest nc ns nx sh mu) : bs_V Z X rm pc lo (.long x :: rest) nc ns nx sh mu := fun p l e s m args below meth c D dA A F hE H locs ls hP hS hl => lv_lstore_n F.1 F.2.1 d rfl hl.lv hn rfl (fun ls' h' => k p l e s m args below meth c D dA A F hE H locs ls' hP hS (hl.st2 hok h'))
theorem bs_lstore {k0 : Nat} {x : Int64} (d : decode X.2.1 pc = .ok (.lstore k0, 2)) (hok : bs_ok lo k0 = true) (hn : k0 + 1 < X.2.2.1) (k : bs_V Z X rm (pc + 2) (bs_st2 lo k0 (.long x)) rest nc ns nx sh mu) : bs_V Z X rm pc lo (.long x :: rest) nc ns nx sh mu := fun p l e s m args below meth c D dA A F hE H locs ls hP hS hl => lv_lstore F.1 F.2.1 d hl.lv hn rfl (fun ls' h' => k p l e s m args below meth c D dA A F hE H locs ls' hP hS (hl.st2 hok h'))
theorem bs_iinc {i : Nat} {n : Int} {x : Int32} (d : decode X.2.1 pc = .ok (.iinc i n, 3)) (hv : lo i = some (.int x)) (hok : bs_ok lo i = true) (k : bs_V Z X rm (pc + 3) (bs_st lo i (.int (x + Int32.ofInt n))) st nc ns nx sh mu) : bs_V Z X rm pc lo st nc ns nx sh mu := by
  intro p l e s m args below meth c D dA A F hE H locs ls hP hS hl
  obtain ⟨q, hq⟩ := List.getElem?_of_mem (bs_li_in (hl.lt hv) hv)
  exact lv_iinc F.1 F.2.1 d hl.lv hq rfl (hl.lt hv) rfl (fun ls' h' => k p l e s m args below meth c D dA A F hE H locs ls' hP hS (hl.st hok h'))
theorem bs_icmp_eq {x y : Int32} {off : Int} {tgt : Nat} (d : decode X.2.1 pc = .ok (.if_icmp .eq off, 3)) (ht : (pc : Int) + off = (tgt : Int)) (kt : x = y → bs_V Z X rm tgt lo (rest) nc ns nx sh mu) (kf : ¬ x = y → bs_V Z X rm (pc + 3) lo (rest) nc ns nx sh mu) : bs_V Z X rm pc lo (.int y :: .int x :: rest) nc ns nx sh mu := fun p l e s m args below meth c D dA A F hE H locs ls hP hS hl => lv_icmp_eq F.1 F.2.1 d ht (fun z => (kt z p l e s m args below meth c D dA A F hE H locs ls hP hS hl)) (fun z => (kf z p l e s m args below meth c D dA A F hE H locs ls hP hS hl))
theorem bs_icmp_ne {x y : Int32} {off : Int} {tgt : Nat} (d : decode X.2.1 pc = .ok (.if_icmp .ne off, 3)) (ht : (pc : Int) + off = (tgt : Int)) (kt : ¬ x = y → bs_V Z X rm tgt lo (rest) nc ns nx sh mu) (kf : x = y → bs_V Z X rm (pc + 3) lo (rest) nc ns nx sh mu) : bs_V Z X rm pc lo (.int y :: .int x :: rest) nc ns nx sh mu := fun p l e s m args below meth c D dA A F hE H locs ls hP hS hl => lv_icmp_ne F.1 F.2.1 d ht (fun z => (kt z p l e s m args below meth c D dA A F hE H locs ls hP hS hl)) (fun z => (kf z p l e s m args below meth c D dA A F hE H locs ls hP hS hl))
theorem bs_icmp_lt {x y : Int32} {off : Int} {tgt : Nat} (d : decode X.2.1 pc = .ok (.if_icmp .lt off, 3)) (ht : (pc : Int) + off = (tgt : Int)) (kt : x < y → bs_V Z X rm tgt lo (rest) nc ns nx sh mu) (kf : ¬ x < y → bs_V Z X rm (pc + 3) lo (rest) nc ns nx sh mu) : bs_V Z X rm pc lo (.int y :: .int x :: rest) nc ns nx sh mu := fun p l e s m args below meth c D dA A F hE H locs ls hP hS hl => lv_icmp_lt F.1 F.2.1 d ht (fun z => (kt z p l e s m args below meth c D dA A F hE H locs ls hP hS hl)) (fun z => (kf z p l e s m args below meth c D dA A F hE H locs ls hP hS hl))
theorem bs_icmp_ge {x y : Int32} {off : Int} {tgt : Nat} (d : decode X.2.1 pc = .ok (.if_icmp .ge off, 3)) (ht : (pc : Int) + off = (tgt : Int)) (kt : y ≤ x → bs_V Z X rm tgt lo (rest) nc ns nx sh mu) (kf : ¬ y ≤ x → bs_V Z X rm (pc + 3) lo (rest) nc ns nx sh mu) : bs_V Z X rm pc lo (.int y :: .int x :: rest) nc ns nx sh mu := fun p l e s m args below meth c D dA A F hE H locs ls hP hS hl => lv_icmp_ge F.1 F.2.1 d ht (fun z => (kt z p l e s m args below meth c D dA A F hE H locs ls hP hS hl)) (fun z => (kf z p l e s m args below meth c D dA A F hE H locs ls hP hS hl))
theorem bs_icmp_gt {x y : Int32} {off : Int} {tgt : Nat} (d : decode X.2.1 pc = .ok (.if_icmp .gt off, 3)) (ht : (pc : Int) + off = (tgt : Int)) (kt : y < x → bs_V Z X rm tgt lo (rest) nc ns nx sh mu) (kf : ¬ y < x → bs_V Z X rm (pc + 3) lo (rest) nc ns nx sh mu) : bs_V Z X rm pc lo (.int y :: .int x :: rest) nc ns nx sh mu := fun p l e s m args below meth c D dA A F hE H locs ls hP hS hl => lv_icmp_gt F.1 F.2.1 d ht (fun z => (kt z p l e s m args below meth c D dA A F hE H locs ls hP hS hl)) (fun z => (kf z p l e s m args below meth c D dA A F hE H locs ls hP hS hl))
theorem bs_icmp_le {x y : Int32} {off : Int} {tgt : Nat} (d : decode X.2.1 pc = .ok (.if_icmp .le off, 3)) (ht : (pc : Int) + off = (tgt : Int)) (kt : x ≤ y → bs_V Z X rm tgt lo (rest) nc ns nx sh mu) (kf : ¬ x ≤ y → bs_V Z X rm (pc + 3) lo (rest) nc ns nx sh mu) : bs_V Z X rm pc lo (.int y :: .int x :: rest) nc ns nx sh mu := fun p l e s m args below meth c D dA A F hE H locs ls hP hS hl => lv_icmp_le F.1 F.2.1 d ht (fun z => (kt z p l e s m args below meth c D dA A F hE H locs ls hP hS hl)) (fun z => (kf z p l e s m args below meth c D dA A F hE H locs ls hP hS hl))
theorem bs_if_eq {x : Int32} {off : Int} {tgt : Nat} (d : decode X.2.1 pc = .ok (.ifCond .eq off, 3)) (ht : (pc : Int) + off = (tgt : Int)) (kt : x = 0 → bs_V Z X rm tgt lo (rest) nc ns nx sh mu) (kf : ¬ x = 0 → bs_V Z X rm (pc + 3) lo (rest) nc ns nx sh mu) : bs_V Z X rm pc lo (.int x :: rest) nc ns nx sh mu := fun p l e s m args below meth c D dA A F hE H locs ls hP hS hl => lv_if_eq F.1 F.2.1 d ht (fun z => (kt z p l e s m args below meth c D dA A F hE H locs ls hP hS hl)) (fun z => (kf z p l e s m args below meth c D dA A F hE H locs ls hP hS hl))
theorem bs_if_ne {x : Int32} {off : Int} {tgt : Nat} (d : decode X.2.1 pc = .ok (.ifCond .ne off, 3)) (ht : (pc : Int) + off = (tgt : Int)) (kt : ¬ x = 0 → bs_V Z X rm tgt lo (rest) nc ns nx sh mu) (kf : x = 0 → bs_V Z X rm (pc + 3) lo (rest) nc ns nx sh mu) : bs_V Z X rm pc lo (.int x :: rest) nc ns nx sh mu := fun p l e s m args below meth c D dA A F hE H locs ls hP hS hl => lv_if_ne F.1 F.2.1 d ht (fun z => (kt z p l e s m args below meth c D dA A F hE H locs ls hP hS hl)) (fun z => (kf z p l e s m args below meth c D dA A F hE H locs ls hP hS hl))
theorem bs_if_lt {x : Int32} {off : Int} {tgt : Nat} (d : decode X.2.1 pc = .ok (.ifCond .lt off, 3)) (ht : (pc : Int) + off = (tgt : Int)) (kt : x < 0 → bs_V Z X rm tgt lo (rest) nc ns nx sh mu) (kf : ¬ x < 0 → bs_V Z X rm (pc + 3) lo (rest) nc ns nx sh mu) : bs_V Z X rm pc lo (.int x :: rest) nc ns nx sh mu := fun p l e s m args below meth c D dA A F hE H locs ls hP hS hl => lv_if_lt F.1 F.2.1 d ht (fun z => (kt z p l e s m args below meth c D dA A F hE H locs ls hP hS hl)) (fun z => (kf z p l e s m args below meth c D dA A F hE H locs ls hP hS hl))
theorem bs_if_ge {x : Int32} {off : Int} {tgt : Nat} (d : decode X.2.1 pc = .ok (.ifCond .ge off, 3)) (ht : (pc : Int) + off = (tgt : Int)) (kt : 0 ≤ x → bs_V Z X rm tgt lo (rest) nc ns nx sh mu) (kf : ¬ 0 ≤ x → bs_V Z X rm (pc + 3) lo (rest) nc ns nx sh mu) : bs_V Z X rm pc lo (.int x :: rest) nc ns nx sh mu := fun p l e s m args below meth c D dA A F hE H locs ls hP hS hl => lv_if_ge F.1 F.2.1 d ht (fun z => (kt z p l e s m args below meth c D dA A F hE H locs ls hP hS hl)) (fun z => (kf z p l e s m args below meth c D dA A F hE H locs ls hP hS hl))
theorem bs_if_gt {x : Int32} {off : Int} {tgt : Nat} (d : decode X.2.1 pc = .ok (.ifCond .gt off, 3)) (ht : (pc : Int) + off = (tgt : Int)) (kt : 0 < x → bs_V Z X rm tgt lo (rest) nc ns nx sh mu) (kf : ¬ 0 < x → bs_V Z X rm (pc + 3) lo (rest) nc ns nx sh mu) : bs_V Z X rm pc lo (.int x :: rest) nc ns nx sh mu := fun p l e s m args below meth c D dA A F hE H locs ls hP hS hl => lv_if_gt F.1 F.2.1 d ht (fun z => (kt z p l e s m args below meth c D dA A F hE H locs ls hP hS hl)) (fun z => (kf z p l e s m args below meth c D dA A F hE H locs ls hP hS hl))
theorem bs_if_le {x : Int32} {off : Int} {tgt : Nat} (d : decode X.2.1 pc = .ok (.ifCond .le off, 3)) (ht : (pc : Int) + off = (tgt : Int)) (kt : x ≤ 0 → bs_V Z X rm tgt lo (rest) nc ns nx sh mu) (kf : ¬ x ≤ 0 → bs_V Z X rm (pc + 3) lo (rest) nc ns nx sh mu) : bs_V Z X rm pc lo (.int x :: rest) nc ns nx sh mu := fun p l e s m args below meth c D dA A F hE H locs ls hP hS hl => lv_if_le F.1 F.2.1 d ht (fun z => (kt z p l e s m args below meth c D dA A F hE H locs ls hP hS hl)) (fun z => (kf z p l e s m args below meth c D dA A F hE H locs ls hP hS hl))
theorem bs_acmp_eq {a b : Option Nat} {off : Int} {tgt : Nat} (d : decode X.2.1 pc = .ok (.if_acmp .eq off, 3)) (ht : (pc : Int) + off = (tgt : Int)) (kt : a = b → bs_V Z X rm tgt lo (rest) nc ns nx sh mu) (kf : ¬ a = b → bs_V Z X rm (pc + 3) lo (rest) nc ns nx sh mu) : bs_V Z X rm pc lo (va_rf b :: va_rf a :: rest) nc ns nx sh mu := fun p l e s m args below meth c D dA A F hE H locs ls hP hS hl => lv_acmp_eq F.1 F.2.1 d ht (fun z => (kt z p l e s m args below meth c D dA A F hE H locs ls hP hS hl)) (fun z => (kf z p l e s m args below meth c D dA A F hE H locs ls hP hS hl))
theorem bs_acmp_ne {a b : Option Nat} {off : Int} {tgt : Nat} (d : decode X.2.1 pc = .ok (.if_acmp .ne off, 3)) (ht : (pc : Int) + off = (tgt : Int)) (kt : ¬ a = b → bs_V Z X rm tgt lo (rest) nc ns nx sh mu) (kf : a = b → bs_V Z X rm (pc + 3) lo (rest) nc ns nx sh mu) : bs_V Z X rm pc lo (va_rf b :: va_rf a :: rest) nc ns nx sh mu := fun p l e s m args below meth c D dA A F hE H locs ls hP hS hl => lv_acmp_ne F.1 F.2.1 d ht (fun z => (kt z p l e s m args below meth c D dA A F hE H locs ls hP hS hl)) (fun z => (kf z p l e s m args below meth c D dA A F hE H locs ls hP hS hl))
theorem bs_goto {off : Int} {tgt : Nat} (d : decode X.2.1 pc = .ok (.goto off, 3)) (ht : (pc : Int) + off = (tgt : Int)) (k : bs_V Z X rm tgt lo (rest) nc ns nx sh mu) : bs_V Z X rm pc lo (rest) nc ns nx sh mu := fun p l e s m args below meth c D dA A F hE H locs ls hP hS hl => lv_goto F.1 F.2.1 d ht (k p l e s m args below meth c D dA A F hE H locs ls hP hS hl)
theorem bs_ifnull {a : Nat} {off : Int} (d : decode X.2.1 pc = .ok (.ifnull off, 3)) (k : bs_V Z X rm (pc + 3) lo (rest) nc ns nx sh mu) : bs_V Z X rm pc lo (.ref a :: rest) nc ns nx sh mu := fun p l e s m args below meth c D dA A F hE H locs ls hP hS hl => lv_ifnull F.1 F.2.1 d (k p l e s m args below meth c D dA A F hE H locs ls hP hS hl)
theorem bs_ifnullN {off : Int} {tgt : Nat} (d : decode X.2.1 pc = .ok (.ifnull off, 3)) (ht : (pc : Int) + off = (tgt : Int)) (k : bs_V Z X rm tgt lo (rest) nc ns nx sh mu) : bs_V Z X rm pc lo (.null :: rest) nc ns nx sh mu := fun p l e s m args below meth c D dA A F hE H locs ls hP hS hl => lv_ifnullN F.1 F.2.1 d ht (k p l e s m args below meth c D dA A F hE H locs ls hP hS hl)
theorem bs_ifnonnull {a : Nat} {off : Int} {tgt : Nat} (d : decode X.2.1 pc = .ok (.ifnonnull off, 3)) (ht : (pc : Int) + off = (tgt : Int)) (k : bs_V Z X rm tgt lo (rest) nc ns nx sh mu) : bs_V Z X rm pc lo (.ref a :: rest) nc ns nx sh mu := fun p l e s m args below meth c D dA A F hE H locs ls hP hS hl => lv_ifnonnull F.1 F.2.1 d ht (k p l e s m args below meth c D dA A F hE H locs ls hP hS hl)
theorem bs_ifnonnullN {off : Int} (d : decode X.2.1 pc = .ok (.ifnonnull off, 3)) (k : bs_V Z X rm (pc + 3) lo (rest) nc ns nx sh mu) : bs_V Z X rm pc lo (.null :: rest) nc ns nx sh mu := fun p l e s m args below meth c D dA A F hE H locs ls hP hS hl => lv_ifnonnullN F.1 F.2.1 d (k p l e s m args below meth c D dA A F hE H locs ls hP hS hl)
theorem bs_tableIn {dflt lw hi : Int} {offs : Array Int} {len : Nat} {x : Int32} {off : Int} {tgt : Nat} (d : decode X.2.1 pc = .ok (.tableswitch dflt lw hi offs, len)) (h1 : ¬ x.toInt < lw) (h2 : ¬ hi < x.toInt) (ho : offs[(x.toInt - lw).toNat]? = some off) (ht : (pc : Int) + off = (tgt : Int)) (k : bs_V Z X rm tgt lo (rest) nc ns nx sh mu) : bs_V Z X rm pc lo (.int x :: rest) nc ns nx sh mu := fun p l e s m args below meth c D dA A F hE H locs ls hP hS hl => lv_tableIn F.1 F.2.1 d h1 h2 ho ht (k p l e s m args below meth c D dA A F hE H locs ls hP hS hl)
theorem bs_tableOut {dflt lw hi : Int} {offs : Array Int} {len : Nat} {x : Int32} {tgt : Nat} (d : decode X.2.1 pc = .ok (.tableswitch dflt lw hi offs, len)) (h : x.toInt < lw ∨ hi < x.toInt) (ht : (pc : Int) + dflt = (tgt : Int)) (k : bs_V Z X rm tgt lo (rest) nc ns nx sh mu) : bs_V Z X rm pc lo (.int x :: rest) nc ns nx sh mu := fun p l e s m args below meth c D dA A F hE H locs ls hP hS hl => lv_tableOut F.1 F.2.1 d h ht (k p l e s m args below meth c D dA A F hE H locs ls hP hS hl)
theorem bs_lookup {dflt : Int} {ps : Array (Int × Int)} {len : Nat} {x : Int32} {off : Int} {tgt : Nat} (d : decode X.2.1 pc = .ok (.lookupswitch dflt ps, len)) (hp : (ps.toList.zip (ps.toList.drop 1)).all (fun (a, next) => a.1 < next.1) = true) (ho : Op.lookupswitch.offset ps.toList dflt x.toInt = off) (ht : (pc : Int) + off = (tgt : Int)) (k : bs_V Z X rm tgt lo (rest) nc ns nx sh mu) : bs_V Z X rm pc lo (.int x :: rest) nc ns nx sh mu := fun p l e s m args below meth c D dA A F hE H locs ls hP hS hl => lv_lookup F.1 F.2.1 d hp ho ht (k p l e s m args below meth c D dA A F hE H locs ls hP hS hl)
theorem bs_astoreN_n {k0 : Fin 4} (d : decode X.2.1 pc = .ok (.astore_n k0, 1)) (hok : bs_ok lo (k0 : Nat) = true) (hn : (k0 : Nat) < X.2.2.1) (k : bs_V Z X rm (pc + 1) (bs_st lo (k0 : Nat) .null) rest nc ns nx sh mu) : bs_V Z X rm pc lo (.null :: rest) nc ns nx sh mu := fun p l e s m args below meth c D dA A F hE H locs ls hP hS hl => lv_astore_nN F.1 F.2.1 d rfl hl.lv hn rfl (fun ls' h' => k p l e s m args below meth c D dA A F hE H locs ls' hP hS (hl.st hok h'))
theorem bs_aloadN_n {k0 : Fin 4} (d : decode X.2.1 pc = .ok (.aload_n k0, 1)) (hv : lo (k0 : Nat) = some .null) (k : bs_V Z X rm (pc + 1) lo (.null :: rest) nc ns nx sh mu) : bs_V Z X rm pc lo rest nc ns nx sh mu := fun p l e s m args below meth c D dA A F hE H locs ls hP hS hl => lv_aload_nN F.1 F.2.1 d rfl (hl.2.2 _ _ hv) (k p l e s m args below meth c D dA A F hE H locs ls hP hS hl)
theorem bs_astoreN {k0 : Nat} (d : decode X.2.1 pc = .ok (.astore k0, 2)) (hok : bs_ok lo k0 = true) (hn : k0 < X.2.2.1) (k : bs_V Z X rm (pc + 2) (bs_st lo k0 .null) rest nc ns nx sh mu) : bs_V Z X rm pc lo (.null :: rest) nc ns nx sh mu := fun p l e s m args below meth c D dA A F hE H locs ls hP hS hl => lv_astoreN F.1 F.2.1 d hl.lv hn rfl (fun ls' h' => k p l e s m args below meth c D dA A F hE H locs ls' hP hS (hl.st hok h'))
theorem bs_aloadN {k0 : Nat} (d : decode X.2.1 pc = .ok (.aload k0, 2)) (hv : lo k0 = some .null) (k : bs_V Z X rm (pc + 2) lo (.null :: rest) nc ns nx sh mu) : bs_V Z X rm pc lo rest nc ns nx sh mu := fun p l e s m args below meth c D dA A F hE H locs ls hP hS hl => lv_aloadN F.1 F.2.1 d (hl.2.2 _ _ hv) (k p l e s m args below meth c D dA A F hE H locs ls hP hS hl)

theorem bs_lcmp {x y : Int64} (d : decode X.2.1 pc = .ok (.lcmp, 1)) (k : bs_V Z X rm (pc + 1) lo (.int (lg_cmp x y) :: rest) nc ns nx sh mu) : bs_V Z X rm pc lo (.long y :: .long x :: rest) nc ns nx sh mu :=
  fun p l e s m args below meth c D dA A F hE H locs ls hP hS hl => W.lcmp F.1 F.2.1 d (k p l e s m args below meth c D dA A F hE H locs ls hP hS hl)
theorem bs_topi {x : Int32} (k : ∀ y : Int32, y = x → bs_V Z X rm pc lo (.int y :: rest) nc ns nx sh mu) : bs_V Z X rm pc lo (.int x :: rest) nc ns nx sh mu := k x rfl
theorem bs_topq {x x' : Int32} (h : x = x') (k : bs_V Z X rm pc lo (.int x' :: rest) nc ns nx sh mu) : bs_V Z X rm pc lo (.int x :: rest) nc ns nx sh mu := h ▸ k
theorem bs_ldc {ix : Nat} {v : Int32} (d : decode X.2.1 pc = .ok (.ldc ix, 2)) (w : Cond.constant X.1.cls ix v ∈ bs_al) (k : bs_V Z X rm (pc + 2) lo (.int v :: rest) nc ns nx sh mu) : bs_V Z X rm pc lo rest nc ns nx sh mu :=
  fun p l e s m args below meth c D dA A F hE H locs ls hP hS hl => lv_ldc F.1 F.2.1 F.2.2.2.2.1 (F.2.2.2.2.2.1 _ (id w)) d (k p l e s m args below meth c D dA A F hE H locs ls hP hS hl)
theorem bs_ldcw {ix : Nat} {v : Int32} (d : decode X.2.1 pc = .ok (.ldc_w ix, 3)) (w : Cond.constant X.1.cls ix v ∈ bs_al) (k : bs_V Z X rm (pc + 3) lo (.int v :: rest) nc ns nx sh mu) : bs_V Z X rm pc lo rest nc ns nx sh mu :=
  fun p l e s m args below meth c D dA A F hE H locs ls hP hS hl => lv_ldcw F.1 F.2.1 F.2.2.2.2.1 (F.2.2.2.2.2.1 _ (id w)) d (k p l e s m args below meth c D dA A F hE H locs ls hP hS hl)
theorem bs_ldc2 {ix : Nat} {v : Int64} (d : decode X.2.1 pc = .ok (.ldc2_w ix, 3)) (w : Cond.constantLong X.1.cls ix v ∈ bs_al) (k : bs_V Z X rm (pc + 3) lo (.long v :: rest) nc ns nx sh mu) : bs_V Z X rm pc lo rest nc ns nx sh mu :=
  fun p l e s m args below meth c D dA A F hE H locs ls hP hS hl => lv_ldc2 F.1 F.2.1 F.2.2.2.2.1 (F.2.2.2.2.2.1 _ (id w)) d (k p l e s m args below meth c D dA A F hE H locs ls hP hS hl)
theorem bs_getf {ix ci k a : Nat} {v : Value} (d : decode X.2.1 pc = .ok (.getfield ix, 3)) (w : bs_gf X.1.cls ix ci k) (hs : (sh a).1 = ci) (hv : bs_nv (bs_ty ci k) (mu a k) = v) (kk : bs_V Z X rm (pc + 3) lo (v :: rest) nc ns nx sh mu) : bs_V Z X rm pc lo (.ref a :: rest) nc ns nx sh mu := by
  intro p l e s m args below meth c D dA A F hE H locs ls hP hS hl
  obtain ⟨h13, q, hq, hk, hw⟩ := w
  obtain ⟨t1, -, -, t4⟩ := bs_tab ci q hq
  have he : bs_ce dA sh mu a = .inr (ci, bs_fs ci (mu a)) := by simp [bs_ce, hs, h13]
  have hP1 := hP.one (a := a) (by omega)
  rw [he] at hP1
  exact va_get (D := D) (ci := ci) (C := q.1) (T := q.2.1) (N := q.2.2) F.1 F.2.1 F.2.2.2.2.2.1 (fun w h => id (t4 w h)) F.2.2.2.2.1 F.2.2.2.2.2.2.2.2.1.1 hP1 0 rfl hq k hk (F.2.2.2.2.2.1 _ (id hw)) (fun _ h9 => h9) (by rw [bs_fs_at (by omega), hv]) d (kk p l e s m args below meth c D dA A F hE H locs ls hP hS hl)
theorem bs_getI {ix ci k a : Nat} (d : decode X.2.1 pc = .ok (.getfield ix, 3)) (w : bs_gi X.1.cls ix ci k) (hs : (sh a).1 = ci) (kk : bs_V Z X rm (pc + 3) lo (.int (bs_iv (mu a k)) :: rest) nc ns nx sh mu) : bs_V Z X rm pc lo (.ref a :: rest) nc ns nx sh mu := bs_getf d w.1 hs (w.2 _) kk
theorem bs_getL {ix ci k a : Nat} (d : decode X.2.1 pc = .ok (.getfield ix, 3)) (w : bs_gl X.1.cls ix ci k) (hs : (sh a).1 = ci) (kk : bs_V Z X rm (pc + 3) lo (.long (bs_lv (mu a k)) :: rest) nc ns nx sh mu) : bs_V Z X rm pc lo (.ref a :: rest) nc ns nx sh mu := bs_getf d w.1 hs (w.2 _) kk
theorem bs_getR {ix ci k a b : Nat} (d : decode X.2.1 pc = .ok (.getfield ix, 3)) (w : bs_gr X.1.cls ix ci k) (hs : (sh a).1 = ci) (hr : bs_rv (mu a k) = some b) (kk : bs_V Z X rm (pc + 3) lo (.ref b :: rest) nc ns nx sh mu) : bs_V Z X rm pc lo (.ref a :: rest) nc ns nx sh mu := bs_getf d w.1 hs (by rw [w.2, hr]; rfl) kk
theorem bs_getQ {ix ci k a : Nat} (d : decode X.2.1 pc = .ok (.getfield ix, 3)) (w : bs_gr X.1.cls ix ci k) (hs : (sh a).1 = ci) (kk : bs_V Z X rm (pc + 3) lo (va_rf (bs_rv (mu a k)) :: rest) nc ns nx sh mu) : bs_V Z X rm pc lo (.ref a :: rest) nc ns nx sh mu := bs_getf d w.1 hs (w.2 _) kk
theorem bs_putf {ix ci k a : Nat} {v : Value} (d : decode X.2.1 pc = .ok (.putfield ix, 3)) (w : bs_gf X.1.cls ix ci k) (hs : (sh a).1 = ci) (hfin : bs_nfin ci k ∨ (bs_fin X.1.cls ci k ∧ X.1.name = "<init>")) (hv : bs_nv (bs_ty ci k) v = v) (hn : narrow (bs_ty ci k) v = v) (hf : fits (bs_ty ci k) v = true) (kk : bs_V Z X rm (pc + 3) lo rest nc ns nx sh (bs_up mu a k v)) : bs_V Z X rm pc lo (v :: .ref a :: rest) nc ns nx sh mu := by
  intro p l e s m args below meth c D dA A F hE H locs ls hP hS hl
  obtain ⟨h13, q, hq, hk, hw⟩ := w
  obtain ⟨t1, t2, t3, t4⟩ := bs_tab ci q hq
  have hts := F.2.2.2.2.2.1
  have hown := F.2.2.2.2.1
  have hK := F.2.2.2.2.2.2.2.2.1.1
  have hin : ∀ w ∈ u_ws q.1 q.2.1 q.2.2, w ∈ bs_al := fun w h => id (t4 w h)
  have ha19 : (sh a).1 < 19 := by omega
  have he : bs_ce dA sh mu a = .inr (ci, bs_fs ci (mu a)) := by simp [bs_ce, hs, h13]
  have hap := va_apart (own := X.1.cls) hts hin (bs_ty ci) t2 t3 hK hq
  obtain ⟨hAa, hat⟩ := hP.2 a ha19
  rw [he] at hat
  obtain ⟨r, h1, cell, q1, q2, q3, q4⟩ := hat
  have hr : r = q := Option.some.inj (h1.symm.trans hq)
  subst hr
  obtain ⟨hSl, hfc, kC, hkC, hkind⟩ := hK.1 ci _ hq
  obtain ⟨cf, kf, fi, f, hi, hsl⟩ := hSl k hk
  have hst := (u_facts hfc hkC (u_lays hts hin hk) hi).1
  have fin : ∀ H1 : Heap, H1[a]? = some (cell.setSlot f.slot v) → H1.size = H.size → (∀ z, z ≠ a → H1[z]? = H[z]?) → W p l e rm s m args below meth c H1 (locs ++ [⟨a, f.slot⟩]) nc ns (Z.2 s args below D dA A) (F0 m (pc + 3) ls rest) := fun H1 e1 e2 e3 => by
    refine kk p l e s m args below meth c D dA A F hE H1 _ ls (hP.set e2 e3 ?_ (fun b hb => bs_ce_ne hb)) (hS.put e2 e3 hAa) hl
    have he2 : bs_ce dA sh (bs_up mu a k v) a = .inr (ci, (bs_fs ci (mu a)).set k v) := by
      rw [← bs_fs_set (by omega) hv]; simp [bs_ce, hs, h13]
    rw [he2]
    rw [hsl] at e1
    exact ⟨_, hq, t_OB.to (V := updV (vp_V (bs_fs ci (mu a))) k v) ⟨_, e1, q2, q3, t_set q4 hap hk v⟩ (fun j _ => vp_updV_set (by rw [bs_fs_len]; omega) v j)⟩
  have hlay := hts _ (hin _ (u_in_lay hk))
  unfold u_lay at hlay
  have hlink := hts _ (id hw : _ ∈ bs_al)
  rcases hfin with hfin | ⟨hfin, hini⟩
  · rw [if_neg (by rw [hfin _ hq]; decide)] at hlay
    have h6 := u_store hfc hkC hkind hlay hi (t2 k hk) hn hf
    exact W.putK F.1 F.2.1 (f := f) ⟨hown, hlink, ⟨_, _, _, hi⟩, hst⟩ (by rw [q2]; exact h6) q1 q3 (by rw [hsl]; exact k2_hasslot (q4 k hk)) rfl rfl d fin
  · rw [if_pos (hfin _ hq).1] at hlay
    have hcf : m.cls = cf := by
      obtain ⟨_, _, c', _, _, _, -, -, hf', -, -, -, hown2, -⟩ := Cond.laysFinal_spec hlay
      have e1 : c' = cf := by have := hi.symm.trans hf'; simp at this; exact this.1.symm
      rw [(hfin _ hq).2] at hown2
      rw [← e1]; exact Option.some.inj (hown.symm.trans hown2)
    have h6 := u_fits hfc hkC hkind (Or.inr hlay) hi (t2 k hk) hn hf
    exact W.putFinK F.1 F.2.1 hown hlink hi hst hcf (F.2.2.2.2.2.2.2.1.trans hini) (by rw [q2]; exact h6) q1 q3 (by rw [hsl]; exact k2_hasslot (q4 k hk)) rfl rfl d fin
theorem bs_putI {ix ci k a : Nat} {x : Int32} (d : decode X.2.1 pc = .ok (.putfield ix, 3)) (w : bs_gf X.1.cls ix ci k ∧ bs_ty ci k = .int ∧ bs_nfin ci k) (hs : (sh a).1 = ci) (kk : bs_V Z X rm (pc + 3) lo rest nc ns nx sh (bs_up mu a k (.int x))) : bs_V Z X rm pc lo (.int x :: .ref a :: rest) nc ns nx sh mu :=
  bs_putf d w.1 hs (Or.inl w.2.2) (by rw [w.2.1]; rfl) (by rw [w.2.1]; rfl) (by rw [w.2.1]; rfl) kk
theorem bs_putZ {ix ci k a : Nat} {x : Int32} (d : decode X.2.1 pc = .ok (.putfield ix, 3)) (w : bs_gf X.1.cls ix ci k ∧ bs_ty ci k = .boolean ∧ bs_nfin ci k) (hs : (sh a).1 = ci) (hx : x = 0 ∨ x = 1) (kk : bs_V Z X rm (pc + 3) lo rest nc ns nx sh (bs_up mu a k (.int x))) : bs_V Z X rm pc lo (.int x :: .ref a :: rest) nc ns nx sh mu :=
  bs_putf d w.1 hs (Or.inl w.2.2) (by rw [w.2.1]; rfl) (by rw [w.2.1]; rcases hx with rfl | rfl <;> rfl) (by rw [w.2.1]; rcases hx with rfl | rfl <;> rfl) kk
theorem bs_putL {ix ci k a : Nat} {x : Int64} (d : decode X.2.1 pc = .ok (.putfield ix, 3)) (w : bs_gf X.1.cls ix ci k ∧ bs_ty ci k = .long ∧ bs_nfin ci k) (hs : (sh a).1 = ci) (kk : bs_V Z X rm (pc + 3) lo rest nc ns nx sh (bs_up mu a k (.long x))) : bs_V Z X rm pc lo (.long x :: .ref a :: rest) nc ns nx sh mu :=
  bs_putf d w.1 hs (Or.inl w.2.2) (by rw [w.2.1]; rfl) (by rw [w.2.1]; rfl) (by rw [w.2.1]; rfl) kk
/-- the field holds references -/
def bs_isr (t : FieldType) : Prop := (∃ n, t = .object n) ∨ ∃ u, t = .array u
theorem bs_isr_v {t : FieldType} (h : bs_isr t) (b : Nat) : bs_nv t (.ref b) = .ref b ∧ narrow t (.ref b) = .ref b ∧ fits t (.ref b) = true := by
  rcases h with ⟨n, rfl⟩ | ⟨u, rfl⟩ <;> exact ⟨rfl, rfl, rfl⟩
theorem bs_putR {ix ci k a b : Nat} (d : decode X.2.1 pc = .ok (.putfield ix, 3)) (w : bs_gf X.1.cls ix ci k ∧ bs_isr (bs_ty ci k) ∧ bs_nfin ci k) (hs : (sh a).1 = ci) (kk : bs_V Z X rm (pc + 3) lo rest nc ns nx sh (bs_up mu a k (.ref b))) : bs_V Z X rm pc lo (.ref b :: .ref a :: rest) nc ns nx sh mu :=
  bs_putf d w.1 hs (Or.inl w.2.2) (bs_isr_v w.2.1 b).1 (bs_isr_v w.2.1 b).2.1 (bs_isr_v w.2.1 b).2.2 kk
theorem bs_putF {ix ci k a b : Nat} (d : decode X.2.1 pc = .ok (.putfield ix, 3)) (w : bs_gf X.1.cls ix ci k ∧ bs_isr (bs_ty ci k) ∧ bs_fin X.1.cls ci k) (hi : X.1.name = "<init>") (hs : (sh a).1 = ci) (kk : bs_V Z X rm (pc + 3) lo rest nc ns nx sh (bs_up mu a k (.ref b))) : bs_V Z X rm pc lo (.ref b :: .ref a :: rest) nc ns nx sh mu :=
  bs_putf d w.1 hs (Or.inr ⟨w.2.2, hi⟩) (bs_isr_v w.2.1 b).1 (bs_isr_v w.2.1 b).2.1 (bs_isr_v w.2.1 b).2.2 kk
/-- a place of a row -/
def bs_ix (i : Int32) (j n : Nat) : Prop := i.toNatClampNeg = j ∧ vp_in i n
theorem bs_ix.lt {i : Int32} {j n : Nat} (h : bs_ix i j n) : j < n := by rw [← h.1]; exact Nat.not_le.mp fun q => h.2 (Or.inr q)
theorem bs_ix_n {j n : Nat} (hj : j < n) (hn : n < 2 ^ 31) : bs_ix (nI j) j n := ⟨nI_clamp (by omega), vp_in_nI hj hn⟩
theorem bs_ce_r {dA : Nat → ClassId} {a k n : Nat} (hs : sh a = (k, n)) (hk : ¬ k < 13) : bs_ce dA sh mu a = .inl (dA k, bs_row k n (mu a)) := by simp [bs_ce, hs, hk]
theorem bs_row_i {k n : Nat} {f : Nat → Value} (h1 : ¬ k = 15) (h2 : ¬ 17 ≤ k) : bs_row k n f = (n, .inl (fun j => bs_iv (f j))) := by simp [bs_row, h1, h2]
theorem bs_row_l {n : Nat} {f : Nat → Value} : bs_row 15 n f = (n, .inr (.inl (fun j => bs_lv (f j)))) := by simp [bs_row]
theorem bs_row_q {k n : Nat} {f : Nat → Value} (h : 17 ≤ k) : bs_row k n f = (n, .inr (.inr (.inr (.inr (fun j => bs_rv (f j)))))) := by simp [bs_row, h, show ¬ k = 15 by omega]
theorem bs_alen {a k n : Nat} (d : decode X.2.1 pc = .ok (.arraylength, 1)) (hs : sh a = (k, n)) (hk : 13 ≤ k ∧ k < 19) (kk : bs_V Z X rm (pc + 1) lo (.int (nI n) :: rest) nc ns nx sh mu) : bs_V Z X rm pc lo (.ref a :: rest) nc ns nx sh mu := by
  intro p l e s m args below meth c D dA A F hE H locs ls hP hS hl
  have hP1 := hP.one (a := a) (by rw [hs]; exact hk.2)
  rw [bs_ce_r hs (by omega)] at hP1
  have hv : Int32.ofNat (bs_row k n (mu a)).1 = nI n := rfl
  have hK := F.2.2.2.2.2.2.2.2.1.1
  obtain ⟨h1, h2⟩ := hk
  have : k = 13 ∨ k = 14 ∨ k = 15 ∨ k = 16 ∨ k = 17 ∨ k = 18 := by omega
  rcases this with rfl | rfl | rfl | rfl | rfl | rfl
  · exact va_alen F.1 F.2.1 hK hP1 0 0 rfl rfl hv d (kk p l e s m args below meth c D dA A F hE H locs ls hP hS hl)
  · exact va_alen F.1 F.2.1 hK hP1 0 1 rfl rfl hv d (kk p l e s m args below meth c D dA A F hE H locs ls hP hS hl)
  · exact va_alen F.1 F.2.1 hK hP1 0 2 rfl rfl hv d (kk p l e s m args below meth c D dA A F hE H locs ls hP hS hl)
  · exact va_alen F.1 F.2.1 hK hP1 0 3 rfl rfl hv d (kk p l e s m args below meth c D dA A F hE H locs ls hP hS hl)
  · exact va_alen F.1 F.2.1 hK hP1 0 4 rfl rfl hv d (kk p l e s m args below meth c D dA A F hE H locs ls hP hS hl)
  · exact va_alen F.1 F.2.1 hK hP1 0 5 rfl rfl hv d (kk p l e s m args below meth c D dA A F hE H locs ls hP hS hl)
theorem bs_iald {a n j : Nat} {i : Int32} (d : decode X.2.1 pc = .ok (.iaload, 1)) (hs : sh a = (14, n)) (hi : bs_ix i j n) (kk : bs_V Z X rm (pc + 1) lo (.int (bs_iv (mu a j)) :: rest) nc ns nx sh mu) : bs_V Z X rm pc lo (.int i :: .ref a :: rest) nc ns nx sh mu := by
  intro p l e s m args below meth c D dA A F hE H locs ls hP hS hl
  have hP1 := hP.one (a := a) (by rw [hs]; show 14 < 19; omega)
  rw [bs_ce_r hs (by omega), bs_row_i (by omega) (by omega)] at hP1
  exact va_iald F.1 F.2.1 F.2.2.2.2.2.2.2.2.1.1 hP1 0 1 rfl rfl hi.2 d (by rw [hi.1]; exact kk p l e s m args below meth c D dA A F hE H locs ls hP hS hl)
theorem bs_cald {a n j : Nat} {i : Int32} (d : decode X.2.1 pc = .ok (.caload, 1)) (hs : sh a = (13, n)) (hi : bs_ix i j n) (kk : bs_V Z X rm (pc + 1) lo (.int (bs_iv (mu a j)) :: rest) nc ns nx sh mu) : bs_V Z X rm pc lo (.int i :: .ref a :: rest) nc ns nx sh mu := by
  intro p l e s m args below meth c D dA A F hE H locs ls hP hS hl
  have hP1 := hP.one (a := a) (by rw [hs]; show 13 < 19; omega)
  rw [bs_ce_r hs (by omega), bs_row_i (by omega) (by omega)] at hP1
  exact va_cald F.1 F.2.1 F.2.2.2.2.2.2.2.2.1.1 hP1 0 0 rfl rfl hi.2 d (by rw [hi.1]; exact kk p l e s m args below meth c D dA A F hE H locs ls hP hS hl)
theorem bs_zald {a n j : Nat} {i : Int32} (d : decode X.2.1 pc = .ok (.baload, 1)) (hs : sh a = (16, n)) (hi : bs_ix i j n) (kk : bs_V Z X rm (pc + 1) lo (.int (bs_iv (mu a j)) :: rest) nc ns nx sh mu) : bs_V Z X rm pc lo (.int i :: .ref a :: rest) nc ns nx sh mu := by
  intro p l e s m args below meth c D dA A F hE H locs ls hP hS hl
  have hP1 := hP.one (a := a) (by rw [hs]; show 16 < 19; omega)
  rw [bs_ce_r hs (by omega), bs_row_i (by omega) (by omega)] at hP1
  exact va_zald F.1 F.2.1 F.2.2.2.2.2.2.2.2.1.1 hP1 0 3 rfl rfl hi.2 d (by rw [hi.1]; exact kk p l e s m args below meth c D dA A F hE H locs ls hP hS hl)
theorem bs_lald {a n j : Nat} {i : Int32} (d : decode X.2.1 pc = .ok (.laload, 1)) (hs : sh a = (15, n)) (hi : bs_ix i j n) (kk : bs_V Z X rm (pc + 1) lo (.long (bs_lv (mu a j)) :: rest) nc ns nx sh mu) : bs_V Z X rm pc lo (.int i :: .ref a :: rest) nc ns nx sh mu := by
  intro p l e s m args below meth c D dA A F hE H locs ls hP hS hl
  have hP1 := hP.one (a := a) (by rw [hs]; show 15 < 19; omega)
  rw [bs_ce_r hs (by omega), bs_row_l] at hP1
  exact va_lald F.1 F.2.1 F.2.2.2.2.2.2.2.2.1.1 hP1 0 2 rfl rfl hi.2 d (by rw [hi.1]; exact kk p l e s m args below meth c D dA A F hE H locs ls hP hS hl)
theorem bs_aald {a k n j : Nat} {i : Int32} (d : decode X.2.1 pc = .ok (.aaload, 1)) (hs : sh a = (k, n)) (hk : k = 17 ∨ k = 18) (hi : bs_ix i j n) (kk : bs_V Z X rm (pc + 1) lo (va_rf (bs_rv (mu a j)) :: rest) nc ns nx sh mu) : bs_V Z X rm pc lo (.int i :: .ref a :: rest) nc ns nx sh mu := by
  intro p l e s m args below meth c D dA A F hE H locs ls hP hS hl
  have hP1 := hP.one (a := a) (by rw [hs]; show k < 19; omega)
  rw [bs_ce_r hs (by omega), bs_row_q (by omega)] at hP1
  rcases hk with rfl | rfl
  · exact va_aldq F.1 F.2.1 F.2.2.2.2.2.2.2.2.1.1 hP1 0 4 rfl rfl hi.2 d (by rw [hi.1]; exact kk p l e s m args below meth c D dA A F hE H locs ls hP hS hl)
  · exact va_aldq F.1 F.2.1 F.2.2.2.2.2.2.2.2.1.1 hP1 0 5 rfl rfl hi.2 d (by rw [hi.1]; exact kk p l e s m args below meth c D dA A F hE H locs ls hP hS hl)
theorem bs_aaldR {a k n j b : Nat} {i : Int32} (d : decode X.2.1 pc = .ok (.aaload, 1)) (hs : sh a = (k, n)) (hk : k = 17 ∨ k = 18) (hi : bs_ix i j n) (hr : bs_rv (mu a j) = some b) (kk : bs_V Z X rm (pc + 1) lo (.ref b :: rest) nc ns nx sh mu) : bs_V Z X rm pc lo (.int i :: .ref a :: rest) nc ns nx sh mu := bs_aald d hs hk hi (by rw [hr]; exact kk)
theorem bs_iast {a n j : Nat} {i x : Int32} (d : decode X.2.1 pc = .ok (.iastore, 1)) (hs : sh a = (14, n)) (hi : bs_ix i j n) (kk : bs_V Z X rm (pc + 1) lo rest nc ns nx sh (bs_up mu a j (.int x))) : bs_V Z X rm pc lo (.int x :: .int i :: .ref a :: rest) nc ns nx sh mu := by
  intro p l e s m args below meth c D dA A F hE H locs ls hP hS hl
  have ha : (sh a).1 < 19 := by rw [hs]; show 14 < 19; omega
  have hc : H[a]? = some (arrV (dA 14) n (fun j => .int (bs_iv (mu a j)))) := by
    have h := hP.one ha 0 _ rfl
    rw [bs_ce_r hs (by omega), bs_row_i (by omega) (by omega)] at h
    exact h
  refine W.iast F.1 F.2.1 hc ((F.2.2.2.2.2.2.2.2.1.1.2 1 _ rfl).1 n _) (fun q => by cases q) (by rw [arrV_size]; exact hi.2) rfl rfl d fun H1 eh z oq => ?_
  refine kk p l e s m args below meth c D dA A F hE H1 _ ls (hP.set z oq ?_ (fun b hb => bs_ce_ne hb)) (hS.put z oq (hP.2 a ha).1) hl
  rw [bs_ce_r hs (by omega), bs_row_i (by omega) (by omega)]
  show H1[a]? = some (vp_cell _ _)
  rw [eh, vp_cell_i, arrV_store, hi.1]
  congr 2
  funext q
  by_cases hq : q = j <;> simp [updV, bs_up, hq, bs_iv]
theorem bs_zast {a n j : Nat} {i x : Int32} (d : decode X.2.1 pc = .ok (.bastore, 1)) (hs : sh a = (16, n)) (hi : bs_ix i j n) (hx : x = 0 ∨ x = 1) (kk : bs_V Z X rm (pc + 1) lo rest nc ns nx sh (bs_up mu a j (.int x))) : bs_V Z X rm pc lo (.int x :: .int i :: .ref a :: rest) nc ns nx sh mu := by
  intro p l e s m args below meth c D dA A F hE H locs ls hP hS hl
  have ha : (sh a).1 < 19 := by rw [hs]; show 16 < 19; omega
  have hc : H[a]? = some (arrV (dA 16) n (fun j => .int (bs_iv (mu a j)))) := by
    have h := hP.one ha 0 _ rfl
    rw [bs_ce_r hs (by omega), bs_row_i (by omega) (by omega)] at h
    exact h
  refine W.zast F.1 F.2.1 hc ((F.2.2.2.2.2.2.2.2.1.1.2 3 _ rfl).1 n _) (fun q => by cases q) (by rw [arrV_size]; exact hi.2) rfl rfl d fun H1 eh z oq => ?_
  refine kk p l e s m args below meth c D dA A F hE H1 _ ls (hP.set z oq ?_ (fun b hb => bs_ce_ne hb)) (hS.put z oq (hP.2 a ha).1) hl
  rw [bs_ce_r hs (by omega), bs_row_i (by omega) (by omega)]
  show H1[a]? = some (vp_cell _ _)
  have hn : narrow .boolean (.int x) = .int x := by rcases hx with rfl | rfl <;> rfl
  rw [eh, vp_cell_i, arrV_store, hi.1, hn]
  congr 2
  funext q
  by_cases hq : q = j <;> simp [updV, bs_up, hq, bs_iv]
theorem bs_cast {a n j : Nat} {i x : Int32} (d : decode X.2.1 pc = .ok (.castore, 1)) (hs : sh a = (13, n)) (hi : bs_ix i j n) (hx : narrow .char (.int x) = .int x) (kk : bs_V Z X rm (pc + 1) lo rest nc ns nx sh (bs_up mu a j (.int x))) : bs_V Z X rm pc lo (.int x :: .int i :: .ref a :: rest) nc ns nx sh mu := by
  intro p l e s m args below meth c D dA A F hE H locs ls hP hS hl
  have ha : (sh a).1 < 19 := by rw [hs]; show 13 < 19; omega
  have hc : H[a]? = some (arrV (dA 13) n (fun j => .int (bs_iv (mu a j)))) := by
    have h := hP.one ha 0 _ rfl
    rw [bs_ce_r hs (by omega), bs_row_i (by omega) (by omega)] at h
    exact h
  refine W.cast F.1 F.2.1 hc ((F.2.2.2.2.2.2.2.2.1.1.2 0 _ rfl).1 n _) (fun q => by cases q) (by rw [arrV_size]; exact hi.2) rfl rfl d fun H1 eh z oq => ?_
  refine kk p l e s m args below meth c D dA A F hE H1 _ ls (hP.set z oq ?_ (fun b hb => bs_ce_ne hb)) (hS.put z oq (hP.2 a ha).1) hl
  rw [bs_ce_r hs (by omega), bs_row_i (by omega) (by omega)]
  show H1[a]? = some (vp_cell _ _)
  rw [eh, vp_cell_i, arrV_store, hi.1, hx]
  congr 2
  funext q
  by_cases hq : q = j <;> simp [updV, bs_up, hq, bs_iv]
theorem bs_last {a n j : Nat} {i : Int32} {x : Int64} (d : decode X.2.1 pc = .ok (.lastore, 1)) (hs : sh a = (15, n)) (hi : bs_ix i j n) (kk : bs_V Z X rm (pc + 1) lo rest nc ns nx sh (bs_up mu a j (.long x))) : bs_V Z X rm pc lo (.long x :: .int i :: .ref a :: rest) nc ns nx sh mu := by
  intro p l e s m args below meth c D dA A F hE H locs ls hP hS hl
  have ha : (sh a).1 < 19 := by rw [hs]; show 15 < 19; omega
  have hc : H[a]? = some (arrV (dA 15) n (fun j => .long (bs_lv (mu a j)))) := by
    have h := hP.one ha 0 _ rfl
    rw [bs_ce_r hs (by omega), bs_row_l] at h
    exact h
  refine W.last F.1 F.2.1 hc ((F.2.2.2.2.2.2.2.2.1.1.2 2 _ rfl).1 n _) (fun q => by cases q) (by rw [arrV_size]; exact hi.2) rfl rfl d fun H1 eh z oq => ?_
  refine kk p l e s m args below meth c D dA A F hE H1 _ ls (hP.set z oq ?_ (fun b hb => bs_ce_ne hb)) (hS.put z oq (hP.2 a ha).1) hl
  rw [bs_ce_r hs (by omega), bs_row_l]
  show H1[a]? = some (vp_cell _ _)
  rw [eh, vp_cell_l, arrV_store, hi.1]
  congr 2
  funext q
  by_cases hq : q = j <;> simp [updV, bs_up, hq, bs_lv]
/-- a figure (a rule) put into its row -/
theorem bs_aast {a b k ci n j : Nat} {i : Int32} (d : decode X.2.1 pc = .ok (.aastore, 1)) (hs : sh a = (k, n)) (hk : (k = 17 ∧ ci = 1) ∨ (k = 18 ∧ ci = 6)) (hi : bs_ix i j n) (hb : (sh b).1 = ci) (kk : bs_V Z X rm (pc + 1) lo rest nc ns nx sh (bs_up mu a j (.ref b))) : bs_V Z X rm pc lo (.ref b :: .int i :: .ref a :: rest) nc ns nx sh mu := by
  intro p l e s m args below meth c D dA A F hE H locs ls hP hS hl
  have ha : (sh a).1 < 19 := by rw [hs]; show k < 19; omega
  have hc : H[a]? = some (arrV (dA k) n (fun j => va_rf (bs_rv (mu a j)))) := by
    have h := hP.one ha 0 _ rfl
    rw [bs_ce_r hs (by omega), bs_row_q (by omega)] at h
    exact h
  have hK := F.2.2.2.2.2.2.2.2.1.1
  obtain ⟨qc, hqc, tk, C, htk, hC⟩ : ∃ (qc : vw_C), vwCl[ci]? = some qc ∧ ∃ (tk : Nat) (C : String), (bs_tys dA)[tk]? = some (dA k, .object C) ∧ C = qc.1 := by
    rcases hk with ⟨rfl, rfl⟩ | ⟨rfl, rfl⟩
    · exact ⟨_, rfl, 4, _, rfl, rfl⟩
    · exact ⟨_, rfl, 5, _, rfl, rfl⟩
  subst hC
  obtain ⟨r', hr', cellV, g1, g2, g3, -⟩ : va_at D vwCl (b, .inr (ci, bs_fs ci (mu b))) H := by
    have h := (hP.2 b (by omega)).2
    rwa [show bs_ce dA sh mu b = .inr (ci, bs_fs ci (mu b)) by simp [bs_ce, hb, show ci < 13 by omega]] at h
  have hcls := (hK.1 ci qc hqc).2
  obtain ⟨kA, comp, k1, k2, k3, -⟩ := (hK.2 tk _ htk).2
  have hcomp : comp = D.1 ci := Option.some.inj (k3.symm.trans hcls.1)
  subst hcomp
  obtain ⟨kC, hkC, -⟩ := id hcls.2
  refine W.aast F.1 F.2.1 hc (fun q h => by cases h) (fun h => by cases h) k1 k2 rfl hkC ⟨fun q => hi.2 (Or.inl q), by rw [arrV_size, hi.1]; exact hi.lt⟩ g1 (fun q h => by rw [g3] at h; cases h) (by rw [g2]; exact hkC) (by rw [g2]; exact va_assign hcls) rfl rfl d fun H1 eh z oq => ?_
  refine kk p l e s m args below meth c D dA A F hE H1 _ ls (hP.set z oq ?_ (fun b hb => bs_ce_ne hb)) (hS.put z oq (hP.2 a ha).1) hl
  rw [bs_ce_r hs (by omega), bs_row_q (by omega)]
  show H1[a]? = some (vp_cell _ _)
  rw [eh, vp_cell_q, arrV_store, hi.1]
  congr 2
  funext q
  by_cases hq : q = j <;> simp [updV, bs_up, hq, bs_rv, va_rf]
/-- a class that may be made at this place of the pool -/
def bs_nw (own : String) (ix ci : Nat) : Prop := ci < 13 ∧ ∃ q : vw_C, vwCl[ci]? = some q ∧ Cond.classLink own ix q.1 ∈ bs_al ∧ Cond.instantiable q.1 q.2.2 ∈ bs_al ∧ Cond.initialized q.1 ∈ bs_al
def bs_okty (t : FieldType) : Bool := match t with | .int => true | .boolean => true | .char => true | .long => true | .object _ => true | .array _ => true | _ => false
theorem bs_okty_d {t : FieldType} (h : bs_okty t = true) : defaultValue t = bs_nv t .null := by
  cases t <;> first | rfl | (simp [bs_okty] at h)
theorem bs_okty_all (ci : Nat) (h : ci < 13) : ∀ k, k < bs_nf ci → bs_okty (bs_ty ci k) = true := by
  have : ∀ ci, ci < 13 → ∀ k, k < bs_nf ci → bs_okty (bs_ty ci k) = true := by decide +kernel
  exact this ci h
theorem bs_new {ix ci : Nat} (d : decode X.2.1 pc = .ok (.new ix, 3)) (w : bs_nw X.1.cls ix ci) (hc : nc + 1 ≤ rm.cells) (hn : ns + bs_nf ci ≤ rm.slots) (kk : bs_V Z X rm (pc + 3) lo (.ref nx :: rest) (nc + 1) (ns + bs_nf ci) (nx + 1) (bs_ns nx ci (bs_nf ci) sh) (bs_nm nx mu)) : bs_V Z X rm pc lo rest nc ns nx sh mu := by
  intro p l e s m args below meth c D dA A F hE H locs ls hP hS hl
  obtain ⟨h13, q, hq, w1, w2, w3⟩ := w
  obtain ⟨t1, t2, t3, t4⟩ := bs_tab ci q hq
  have hts := F.2.2.2.2.2.1
  have hin : ∀ w ∈ u_ws q.1 q.2.1 q.2.2, w ∈ bs_al := fun w h => id (t4 w h)
  have hKn := F.2.2.2.2.2.2.2.2.1.1.1 ci q hq
  refine W.newcK F.1 F.2.1 F.2.2.2.2.1 (hts _ (id w1)) (hts _ (id w2)) (hts _ (id w3)) rfl d hc (by rw [t1]; exact hn) hKn.2.1 hP.1 fun H1 kC hkC e1 z1 o1 => ?_
  rw [t1]
  refine kk p l e s m args below meth c D dA A F hE H1 _ ls (hP.push (F.2.2.2.2.2.2.2.2.2 _ (by rw [← hP.1]; exact hS.1)) z1 o1 ?_) ⟨Nat.le_trans hS.1 (by rw [z1, hP.1]; omega), fun x h1 h2 => (o1 x (by rw [← hP.1]; exact Nat.lt_of_lt_of_le h1 hS.1)).trans (hS.2.1 x h1 h2), hS.2.2⟩ hl
  have he : bs_ce dA (bs_ns nx ci (bs_nf ci) sh) (bs_nm nx mu) nx = .inr (ci, bs_fs ci (fun _ => .null)) := by
    have h1 : bs_ns nx ci (bs_nf ci) sh nx = (ci, bs_nf ci) := by simp [bs_ns]
    have h2 : bs_nm nx mu nx = fun _ => .null := by funext j; simp [bs_nm]
    simp [bs_ce, h1, h2, h13]
  rw [he]
  refine ⟨q, hq, (u_born (bs_ty ci) hts hin hKn hkC e1 t2).to fun j hj => ?_⟩
  rw [bs_okty_d (bs_okty_all ci h13 j (by omega))]
  simp [vp_V, bs_fs, show j < bs_nf ci by omega]
theorem bs_newa {t : ArrayType} {ty : FieldType} {k N tk : Nat} {n : Int32} (d : decode X.2.1 pc = .ok (.newarray t, 2)) (w : Cond.arrayClass (newarray.typeOf t) ∈ bs_al) (hty : newarray.typeOf t = ty) (hk : (k = 13 ∧ ty = .char ∧ tk = 0) ∨ (k = 14 ∧ ty = .int ∧ tk = 1) ∨ (k = 15 ∧ ty = .long ∧ tk = 2) ∨ (k = 16 ∧ ty = .boolean ∧ tk = 3)) (hN : n = nI N) (hb : N < 65536) (hc : nc + 1 ≤ rm.cells) (hn : ns + N ≤ rm.slots)
    (kk : bs_V Z X rm (pc + 2) lo (.ref nx :: rest) (nc + 1) (ns + N) (nx + 1) (bs_ns nx k N sh) (bs_nm nx mu)) : bs_V Z X rm pc lo (.int n :: rest) nc ns nx sh mu := by
  intro p l e s m args below meth c D dA A F hE H locs ls hP hS hl
  subst hty
  have hts := F.2.2.2.2.2.1
  have hK := F.2.2.2.2.2.2.2.2.1.1
  have hcb : componentBytes (newarray.typeOf t) ≤ 8 := by cases t <;> decide
  refine va_newaK F.1 F.2.1 (hts _ (id w)) rfl d rfl (N := N) (by rw [hN]; exact nI_pos (by omega)) (by rw [hN]; exact nI_clamp (by omega)) (Nat.le_trans (Nat.mul_le_mul (Nat.le_of_lt hb) hcb) (by decide)) hc hn hP.1 fun H1 cA e1 z1 o1 _ hNm => ?_
  refine kk p l e s m args below meth c D dA A F hE H1 _ ls (hP.push (F.2.2.2.2.2.2.2.2.2 _ (by rw [← hP.1]; exact hS.1)) z1 o1 ?_) ⟨Nat.le_trans hS.1 (by rw [z1, hP.1]; omega), fun x h1 h2 => (o1 x (by rw [← hP.1]; exact Nat.lt_of_lt_of_le h1 hS.1)).trans (hS.2.1 x h1 h2), hS.2.2⟩ hl
  have h1 : bs_ns nx k N sh nx = (k, N) := by simp [bs_ns]
  have h2 : bs_nm nx mu nx = fun _ => .null := by funext j; simp [bs_nm]
  rcases hk with ⟨rfl, ht, rfl⟩ | ⟨rfl, ht, rfl⟩ | ⟨rfl, ht, rfl⟩ | ⟨rfl, ht, rfl⟩
  · rw [bs_ce_r h1 (by omega), bs_row_i (by omega) (by omega), h2]
    have hA : s.vm.findClass ("[" ++ FieldType.char.toString) = some (dA 13) := (hK.2 0 _ rfl).2
    rw [ht] at hNm e1
    have : cA = dA 13 := Option.some.inj (hNm.symm.trans hA)
    subst this
    exact e1
  · rw [bs_ce_r h1 (by omega), bs_row_i (by omega) (by omega), h2]
    have hA : s.vm.findClass ("[" ++ FieldType.int.toString) = some (dA 14) := (hK.2 1 _ rfl).2
    rw [ht] at hNm e1
    have : cA = dA 14 := Option.some.inj (hNm.symm.trans hA)
    subst this
    exact e1
  · rw [bs_ce_r h1 (by omega), bs_row_l, h2]
    have hA : s.vm.findClass ("[" ++ FieldType.long.toString) = some (dA 15) := (hK.2 2 _ rfl).2
    rw [ht] at hNm e1
    have : cA = dA 15 := Option.some.inj (hNm.symm.trans hA)
    subst this
    exact e1
  · rw [bs_ce_r h1 (by omega), bs_row_i (by omega) (by omega), h2]
    have hA : s.vm.findClass ("[" ++ FieldType.boolean.toString) = some (dA 16) := (hK.2 3 _ rfl).2
    rw [ht] at hNm e1
    have : cA = dA 16 := Option.some.inj (hNm.symm.trans hA)
    subst this
    exact e1
theorem bs_newq {ix k N tk : Nat} {C : String} {n : Int32} (d : decode X.2.1 pc = .ok (.anewarray ix, 3)) (w : Cond.classLink X.1.cls ix C ∈ bs_al) (hk : (k = 17 ∧ C = "BalloonStall$Figure" ∧ tk = 4) ∨ (k = 18 ∧ C = "BalloonStall$Rule" ∧ tk = 5)) (hN : n = nI N) (hb : N < 65536) (hc : nc + 1 ≤ rm.cells) (hn : ns + N ≤ rm.slots)
    (kk : bs_V Z X rm (pc + 3) lo (.ref nx :: rest) (nc + 1) (ns + N) (nx + 1) (bs_ns nx k N sh) (bs_nm nx mu)) : bs_V Z X rm pc lo (.int n :: rest) nc ns nx sh mu := by
  intro p l e s m args below meth c D dA A F hE H locs ls hP hS hl
  have hts := F.2.2.2.2.2.1
  have hK := F.2.2.2.2.2.2.2.2.1.1
  have hAO : va_AO C s := by
    rcases hk with ⟨_, rfl, _⟩ | ⟨_, rfl, _⟩
    · exact F.2.2.2.2.2.2.2.2.1.2.1
    · exact F.2.2.2.2.2.2.2.2.1.2.2.1
  have hcl : n.toNatClampNeg = N := by rw [hN]; exact nI_clamp (by omega)
  refine W.anew F.1 F.2.1 F.2.2.2.2.1 (hts _ (id w)) (va_AO.use hAO) rfl d rfl (by rw [hN]; exact nI_pos (by omega)) (by rw [hcl]; omega) hc (by rw [hcl]; exact hn) fun cA kA comp f1 f2 f3 f4 => ?_
  rw [hcl, hP.1]
  have z1 : (H.push ({ cls := cA, slots := Array.replicate N .null, vm := .none } : Cell)).size = nx + 1 := by rw [Array.size_push, hP.1]
  have o1 : ∀ q, q < nx → (H.push ({ cls := cA, slots := Array.replicate N .null, vm := .none } : Cell))[q]? = H[q]? := fun q hq => by
    rw [Array.getElem?_push, if_neg (by rw [hP.1]; exact Nat.ne_of_lt hq)]
  have e1 : (H.push ({ cls := cA, slots := Array.replicate N .null, vm := .none } : Cell))[nx]? = some (arrV cA N (fun _ => .null)) := by
    rw [← hP.1, Array.getElem?_push_size, ← arrV_new]
  refine kk p l e s m args below meth c D dA A F hE _ _ ls (hP.push (F.2.2.2.2.2.2.2.2.2 _ (by rw [← hP.1]; exact hS.1)) z1 o1 ?_) ⟨Nat.le_trans hS.1 (by rw [z1, hP.1]; omega), fun x h1 h2 => (o1 x (by rw [← hP.1]; exact Nat.lt_of_lt_of_le h1 hS.1)).trans (hS.2.1 x h1 h2), hS.2.2⟩ hl
  have h1 : bs_ns nx k N sh nx = (k, N) := by simp [bs_ns]
  have h2 : bs_nm nx mu nx = fun _ => .null := by funext j; simp [bs_nm]
  rcases hk with ⟨rfl, rfl, rfl⟩ | ⟨rfl, rfl, rfl⟩
  · rw [bs_ce_r h1 (by omega), bs_row_q (by omega), h2]
    obtain ⟨_, _, _, _, _, h6⟩ := (hK.2 4 _ rfl).2
    have : cA = dA 17 := Option.some.inj (f1.symm.trans h6)
    subst this
    exact e1
  · rw [bs_ce_r h1 (by omega), bs_row_q (by omega), h2]
    obtain ⟨_, _, _, _, _, h6⟩ := (hK.2 5 _ rfl).2
    have : cA = dA 18 := Option.some.inj (f1.symm.trans h6)
    subst this
    exact e1
theorem bs_oi1 : Cond.instanceMethod objectInit ∈ bs_al := bs_al_in (List.mem_of_getElem? (i := 141) (by decide +kernel)) (by decide +kernel)
theorem bs_oi2 : Cond.code objectInit ⟨#[0xb1]⟩ 1 none ∈ bs_al := bs_al_in (List.mem_of_getElem? (i := 142) (by decide +kernel)) (by decide +kernel)
theorem bs_oinit {ix a : Nat} (d : decode X.2.1 pc = .ok (.invokespecial ix, 3)) (w : Cond.methodLink X.1.cls ix objectInit ∈ bs_al) (hf : 1 ≤ rm.frames) (hlo : (rest.map fun v => v.category).sum + 12 ≤ rm.locals) (kk : bs_V Z X rm (pc + 3) lo rest nc ns nx sh mu) : bs_V Z X rm pc lo (.ref a :: rest) nc ns nx sh mu := by
  intro p l e s m args below meth c D dA A F hE H locs ls hP hS hl
  have hts := F.2.2.2.2.2.1
  refine W.objInit F.1 F.2.1 F.2.2.2.2.1 (hts _ (id w)) (hts _ (id bs_oi1)) (hts _ (id bs_oi2)) rfl (hl.1.trans F.2.2.2.1.symm) rfl d hf (by show 2 * 0 + _ + _ ≤ _; omega) ?_
  exact kk p l e s m args below meth c D dA A F hE H locs ls hP hS hl
theorem bs_copy {ix a0 a1 n0 n1 sp dp n : Nat} {isp idp inn : Int32} (d : decode X.2.1 pc = .ok (.invokestatic ix, 3)) (w : Cond.methodLink X.1.cls ix arraycopyName ∈ bs_al ∧ Cond.native arraycopyName ∈ bs_al ∧ Cond.static arraycopyName ∈ bs_al ∧ Cond.initialized "java/lang/System" ∈ bs_al) (hs0 : sh a0 = (14, n0)) (hs1 : sh a1 = (14, n1)) (e1 : isp = nI sp) (e2 : idp = nI dp) (e3 : inn = nI n) (h0 : sp + n ≤ n0) (h1 : dp + n ≤ n1) (hb : n0 < 2 ^ 31 ∧ n1 < 2 ^ 31)
    (hf : 1 ≤ rm.frames) (hlo : (rest.map fun v => v.category).sum + (nativeFrameWords "java/lang/System" "arraycopy" 5 + 11) ≤ rm.locals) (kk : bs_V Z X rm (pc + 3) lo rest nc ns nx sh (bs_cp mu a0 a1 sp dp n)) : bs_V Z X rm pc lo (.int inn :: .int idp :: .ref a1 :: .int isp :: .ref a0 :: rest) nc ns nx sh mu := by
  intro p l e s m args below meth c D dA A F hE H locs ls hP hS hl
  subst e1; subst e2; subst e3
  have hts := F.2.2.2.2.2.1
  have hK := F.2.2.2.2.2.2.2.2.1.1
  have b0 : (sh a0).1 < 19 := by rw [hs0]; show 14 < 19; omega
  have b1 : (sh a1).1 < 19 := by rw [hs1]; show 14 < 19; omega
  have hc0 : H[a0]? = some (vp_cell (dA 14) (n0, .inl (fun j => bs_iv (mu a0 j)))) := by
    have h := hP.one b0 0 _ rfl
    rw [bs_ce_r hs0 (by omega), bs_row_i (by omega) (by omega)] at h
    exact h
  have hc1 : H[a1]? = some (vp_cell (dA 14) (n1, .inl (fun j => bs_iv (mu a1 j)))) := by
    have h := hP.one b1 0 _ rfl
    rw [bs_ce_r hs1 (by omega), bs_row_i (by omega) (by omega)] at h
    exact h
  obtain ⟨-, k0, hk0, cm0, hkk0⟩ := (hK.2 1 _ rfl).1 n0 (fun j => .int (bs_iv (mu a0 j)))
  obtain ⟨-, k1, hk1, cm1, hkk1⟩ := (hK.2 1 _ rfl).1 n1 (fun j => .int (bs_iv (mu a1 j)))
  have csp : (nI sp).toNatClampNeg = sp := nI_clamp (by omega)
  have cdp : (nI dp).toNatClampNeg = dp := nI_clamp (by omega)
  have cn : (nI n).toNatClampNeg = n := nI_clamp (by omega)
  have isp' : (nI sp).toInt = (sp : Int) := nI_toInt (by omega)
  have idp' : (nI dp).toInt = (dp : Int) := nI_toInt (by omega)
  have inn' : (nI n).toInt = (n : Int) := nI_toInt (by omega)
  intro T hT X0
  obtain ⟨vm', X', step⟩ := X0.arraycopy F.1 F.2.2.2.2.1 (hts _ (id w.1)) (hts _ (id w.2.1)) (hts _ (id w.2.2.1)) (hts _ (id w.2.2.2)) (src := a0) (dst := a1) (cs := vp_cell (dA 14) (n0, .inl (fun j => bs_iv (mu a0 j)))) (cd := vp_cell (dA 14) (n1, .inl (fun j => bs_iv (mu a1 j)))) (srcPos := nI sp) (destPos := nI dp) (n := nI n) (by rw [hT]; exact hc0) (by rw [hT]; exact hc1)
    (fun _ h => by cases h) (fun _ h => by cases h) (fun h => by cases h) (fun h => by cases h) hk0 hk1 hkk0 hkk1 (by simp [refKind]) (nI_pos (by omega)) (nI_pos (by omega)) (nI_pos (by omega))
    (by rw [isp', inn']; show ¬ _ > ((arrV (dA 14) n0 (fun j => .int (bs_iv (mu a0 j)))).slots.size : Int); rw [arrV_size]; omega)
    (by rw [idp', inn']; show ¬ _ > ((arrV (dA 14) n1 (fun j => .int (bs_iv (mu a1 j)))).slots.size : Int); rw [arrV_size]; omega)
    (fun vm₁ _ i hi => by
      rw [cn] at hi
      have eq : (vp_cell (dA 14) (n0, .inl (fun j => bs_iv (mu a0 j)))).slots.getD ((nI sp).toNatClampNeg + i) .null = .int (bs_iv (mu a0 (sp + i))) := by
        show (arrV (dA 14) n0 (fun j => .int (bs_iv (mu a0 j)))).slots.getD _ _ = _
        rw [csp, Array.getD_eq_getD_getElem?, arrV_read _ _ (by omega)]
        rfl
      refine ⟨?_, ?_⟩
      · rw [eq]
        rfl
      · rw [eq]
        exact trivial)
    (g := F0 m pc ls (.int (nI n) :: .int (nI dp) :: .ref a1 :: .int (nI sp) :: .ref a0 :: rest)) rfl (hl.1.trans F.2.2.2.1.symm) (rest := rest) rfl (by rw [F.2.1]; exact d) hf (by show 2 * 0 + _ + _ ≤ _; omega)
  have eC : copied (vp_cell (dA 14) (n0, .inl (fun j => bs_iv (mu a0 j)))) (vp_cell (dA 14) (n1, .inl (fun j => bs_iv (mu a1 j)))) (nI sp) (nI dp) (nI n) = vp_cell (dA 14) (n1, .inl (va_cpy (fun j => bs_iv (mu a0 j)) (fun j => bs_iv (mu a1 j)) (nI sp).toNatClampNeg (nI dp).toNatClampNeg (nI n).toNatClampNeg)) := va_copied (n0 := n0) (n1 := n1) (sp := (nI sp).toNatClampNeg) (dp := (nI dp).toNatClampNeg) (n := (nI n).toNatClampNeg) (fun z => Value.int z) (dA 14) (dA 14) (fun j => bs_iv (mu a0 j)) (fun j => bs_iv (mu a1 j)) (by rw [csp, cn]; exact h0)
  rw [eC, csp, cdp, cn] at X' step
  have hlt : a1 < H.size := (Array.getElem?_eq_some_iff.mp hc1).1
  have hheap : ((T.setVm vm').setCell a1 (vp_cell (dA 14) (n1, .inl (va_cpy (fun j => bs_iv (mu a0 j)) (fun j => bs_iv (mu a1 j)) sp dp n)))).heap = H.setIfInBounds a1 (vp_cell (dA 14) (n1, .inl (va_cpy (fun j => bs_iv (mu a0 j)) (fun j => bs_iv (mu a1 j)) sp dp n))) := by rw [← hT]; rfl
  have oq : ∀ q : Nat, q ≠ a1 → (H.setIfInBounds a1 (vp_cell (dA 14) (n1, .inl (va_cpy (fun j => bs_iv (mu a0 j)) (fun j => bs_iv (mu a1 j)) sp dp n))))[q]? = H[q]? := fun q hq => by simp [Array.getElem?_setIfInBounds, Ne.symm hq]
  have oz : (H.setIfInBounds a1 (vp_cell (dA 14) (n1, .inl (va_cpy (fun j => bs_iv (mu a0 j)) (fun j => bs_iv (mu a1 j)) sp dp n)))).size = H.size := by simp
  have hA1 := (hP.2 a1 b1).1
  have hrp : bs_rp D dA A nx sh (bs_cp mu a0 a1 sp dp n) (H.setIfInBounds a1 (vp_cell (dA 14) (n1, .inl (va_cpy (fun j => bs_iv (mu a0 j)) (fun j => bs_iv (mu a1 j)) sp dp n)))) := by
    refine hP.set oz oq ?_ (fun b hb => ?_)
    · rw [bs_ce_r hs1 (by omega), bs_row_i (by omega) (by omega)]
      show (H.setIfInBounds a1 _)[a1]? = some _
      rw [show (H.setIfInBounds a1 (vp_cell (dA 14) (n1, .inl (va_cpy (fun j => bs_iv (mu a0 j)) (fun j => bs_iv (mu a1 j)) sp dp n))))[a1]? = some (vp_cell (dA 14) (n1, .inl (va_cpy (fun j => bs_iv (mu a0 j)) (fun j => bs_iv (mu a1 j)) sp dp n))) by simp [Array.getElem?_setIfInBounds, hlt]]
      refine congrArg (fun f : Nat → Int32 => some (vp_cell (dA 14) (n1, .inl f))) (funext fun j => ?_)
      by_cases hj : dp ≤ j ∧ j < dp + n
      · rw [pk_cpy_in hj.1 hj.2]
        simp [bs_cp, hj.1, hj.2, bs_iv]
      · rw [pk_cpy_out (by omega)]
        simp only [bs_cp]
        rw [if_neg (fun z => hj z.2)]
    · have h2 : (bs_cp mu a0 a1 sp dp n) b = mu b := by funext j; simp [bs_cp, hb]
      unfold bs_ce
      rw [h2]
  obtain ⟨t, a1', b1'⟩ := kk p l e s m args below meth c D dA A F hE _ _ ls hrp ⟨by rw [oz]; exact hS.1, fun q g1 g2 => by
      rw [oq q (fun eq => g2 (by rw [eq]; exact hA1))]
      exact hS.2.1 q g1 g2, fun q hq => by
      rcases List.mem_append.mp hq with h | h
      · exact hS.2.2 q h
      · obtain ⟨z, -, hz⟩ := List.mem_map.mp h
        rw [← hz]
        exact hA1⟩ hl _ hheap X'
  exact ⟨t, step t a1', b1'⟩
theorem bs_mmax {ix : Nat} {x y : Int32} (d : decode X.2.1 pc = .ok (.invokestatic ix, 3)) (w : Cond.methodLink X.1.cls ix Lib.Math.max.name ∈ bs_al ∧ Cond.static Lib.Math.max.name ∈ bs_al ∧ Cond.initialized "java/lang/Math" ∈ bs_al ∧ Cond.code Lib.Math.max.name Lib.Math.max.code 2 (some .int) ∈ bs_al) (hf : 1 ≤ rm.frames) (hlo : (rest.map fun v => v.category).sum + 13 ≤ rm.locals) (hc : nc ≤ rm.cells) (hn : ns ≤ rm.slots) (kk : bs_V Z X rm (pc + 3) lo (.int (if x < y then y else x) :: rest) nc ns nx sh mu) : bs_V Z X rm pc lo (.int y :: .int x :: rest) nc ns nx sh mu := by
  intro p l e s m args below meth c D dA A F hE H locs ls hP hS hl
  have hts := F.2.2.2.2.2.1
  exact va_mmax F.1 F.2.1 (F.2.2.2.1.trans hl.1.symm) F.2.2.2.2.1 (hts _ (id w.1)) (hts _ (id w.2.1)) (hts _ (id w.2.2.1)) (hts _ (id w.2.2.2)) hf hlo hc hn d (kk p l e s m args below meth c D dA A F hE H locs ls hP hS hl)
theorem bs_mmin {ix : Nat} {x y : Int32} (d : decode X.2.1 pc = .ok (.invokestatic ix, 3)) (w : Cond.methodLink X.1.cls ix Lib.Math.min.name ∈ bs_al ∧ Cond.static Lib.Math.min.name ∈ bs_al ∧ Cond.initialized "java/lang/Math" ∈ bs_al ∧ Cond.code Lib.Math.min.name Lib.Math.min.code 2 (some .int) ∈ bs_al) (hf : 1 ≤ rm.frames) (hlo : (rest.map fun v => v.category).sum + 13 ≤ rm.locals) (hc : nc ≤ rm.cells) (hn : ns ≤ rm.slots) (kk : bs_V Z X rm (pc + 3) lo (.int (if y < x then y else x) :: rest) nc ns nx sh mu) : bs_V Z X rm pc lo (.int y :: .int x :: rest) nc ns nx sh mu := by
  intro p l e s m args below meth c D dA A F hE H locs ls hP hS hl
  have hts := F.2.2.2.2.2.1
  exact va_mmin F.1 F.2.1 (F.2.2.2.1.trans hl.1.symm) F.2.2.2.2.1 (hts _ (id w.1)) (hts _ (id w.2.1)) (hts _ (id w.2.2.1)) (hts _ (id w.2.2.2)) hf hlo hc hn d (kk p l e s m args below meth c D dA A F hE H locs ls hP hS hl)
theorem bs_mmaxl {ix : Nat} {x y : Int64} (d : decode X.2.1 pc = .ok (.invokestatic ix, 3)) (w : Cond.methodLink X.1.cls ix Lib.MathLoose.max_long.x ∈ bs_al ∧ Cond.static Lib.MathLoose.max_long.x ∈ bs_al ∧ Cond.initialized "java/lang/Math" ∈ bs_al ∧ Cond.code Lib.MathLoose.max_long.x Lib.MathLoose.max_long.code 4 (some .long) ∈ bs_al) (hf : 1 ≤ rm.frames) (hlo : (rest.map fun v => v.category).sum + 15 ≤ rm.locals) (hc : nc ≤ rm.cells) (hn : ns ≤ rm.slots) (kk : bs_V Z X rm (pc + 3) lo (.long (if y < x then x else y) :: rest) nc ns nx sh mu) : bs_V Z X rm pc lo (.long y :: .long x :: rest) nc ns nx sh mu := by
  intro p l e s m args below meth c D dA A F hE H locs ls hP hS hl
  have hts := F.2.2.2.2.2.1
  exact va_mmax_long F.1 F.2.1 (F.2.2.2.1.trans hl.1.symm) F.2.2.2.2.1 (hts _ (id w.1)) (hts _ (id w.2.1)) (hts _ (id w.2.2.1)) (hts _ (id w.2.2.2)) hf hlo hc hn d (kk p l e s m args below meth c D dA A F hE H locs ls hP hS hl)
theorem bs_mminl {ix : Nat} {x y : Int64} (d : decode X.2.1 pc = .ok (.invokestatic ix, 3)) (w : Cond.methodLink X.1.cls ix Lib.MathLoose.min_long.x ∈ bs_al ∧ Cond.static Lib.MathLoose.min_long.x ∈ bs_al ∧ Cond.initialized "java/lang/Math" ∈ bs_al ∧ Cond.code Lib.MathLoose.min_long.x Lib.MathLoose.min_long.code 4 (some .long) ∈ bs_al) (hf : 1 ≤ rm.frames) (hlo : (rest.map fun v => v.category).sum + 15 ≤ rm.locals) (hc : nc ≤ rm.cells) (hn : ns ≤ rm.slots) (kk : bs_V Z X rm (pc + 3) lo (.long (if y < x then y else x) :: rest) nc ns nx sh mu) : bs_V Z X rm pc lo (.long y :: .long x :: rest) nc ns nx sh mu := by
  intro p l e s m args below meth c D dA A F hE H locs ls hP hS hl
  have hts := F.2.2.2.2.2.1
  exact va_mmin_long F.1 F.2.1 (F.2.2.2.1.trans hl.1.symm) F.2.2.2.2.1 (hts _ (id w.1)) (hts _ (id w.2.1)) (hts _ (id w.2.2.1)) (hts _ (id w.2.2.2)) hf hlo hc hn d (kk p l e s m args below meth c D dA A F hE H locs ls hP hS hl)
theorem bs_iret {x : Int32} (d : decode X.2.1 pc = .ok (.ireturn, 1)) (hr : X.2.2.2 = some .int) (hc : nc ≤ rm.cells) (hn : ns ≤ rm.slots) (h : Ph (some (.int x)) nx sh mu) : bs_W Ph X rm pc lo [.int x] nc ns nx sh mu := by
  intro p l e s m args below meth c D dA A F hE H locs ls hP hS hl
  refine W.widen hc hn ?_
  exact W.iret F.1 F.2.1 (F.2.2.1.trans hr) (fun t ht hW => ⟨⟨_, nx, sh, mu, rfl, h, by rw [ht]; exact hP⟩, hS.F ht⟩) hS.2.2 d F.2.2.2.2.2.2.1
theorem bs_zret {x : Int32} (d : decode X.2.1 pc = .ok (.ireturn, 1)) (hr : X.2.2.2 = some .boolean) (hx : x = 0 ∨ x = 1) (hc : nc ≤ rm.cells) (hn : ns ≤ rm.slots) (h : Ph (some (.int x)) nx sh mu) : bs_W Ph X rm pc lo [.int x] nc ns nx sh mu := by
  intro p l e s m args below meth c D dA A F hE H locs ls hP hS hl
  refine W.widen hc hn ?_
  exact W.zret F.1 F.2.1 (F.2.2.1.trans hr) (by rcases hx with rfl | rfl <;> rfl) (fun t ht hW => ⟨⟨_, nx, sh, mu, rfl, h, by rw [ht]; exact hP⟩, hS.F ht⟩) hS.2.2 d F.2.2.2.2.2.2.1
theorem bs_vret (d : decode X.2.1 pc = .ok (.return_, 1)) (hr : X.2.2.2 = none) (hc : nc ≤ rm.cells) (hn : ns ≤ rm.slots) (h : Ph none nx sh mu) : bs_W Ph X rm pc lo [] nc ns nx sh mu := by
  intro p l e s m args below meth c D dA A F hE H locs ls hP hS hl
  refine W.widen hc hn ?_
  exact W.vret F.1 F.2.1 (F.2.2.1.trans hr) (fun t ht hW => ⟨⟨_, nx, sh, mu, rfl, h, by rw [ht]; exact hP⟩, hS.F ht⟩) hS.2.2 d F.2.2.2.2.2.2.1
theorem bs_lret {x : Int64} (d : decode X.2.1 pc = .ok (.lreturn, 1)) (hr : X.2.2.2 = some .long) (hc : nc ≤ rm.cells) (hn : ns ≤ rm.slots) (h : Ph (some (.long x)) nx sh mu) : bs_W Ph X rm pc lo [.long x] nc ns nx sh mu := by
  intro p l e s m args below meth c D dA A F hE H locs ls hP hS hl
  refine W.widen hc hn ?_
  exact W.lret F.1 F.2.1 (F.2.2.1.trans hr) (fun t ht hW => ⟨⟨_, nx, sh, mu, rfl, h, by rw [ht]; exact hP⟩, hS.F ht⟩) hS.2.2 d F.2.2.2.2.2.2.1
theorem bs_aret {v : Value} {t : FieldType} (d : decode X.2.1 pc = .ok (.areturn, 1)) (hr : X.2.2.2 = some t) (ht : bs_isr t) (hv : v = .null ∨ ∃ a, v = .ref a) (hc : nc ≤ rm.cells) (hn : ns ≤ rm.slots) (h : Ph (some v) nx sh mu) : bs_W Ph X rm pc lo [v] nc ns nx sh mu := by
  intro p l e s m args below meth c D dA A F hE H locs ls hP hS hl
  refine W.widen hc hn ?_
  exact W.aret F.1 F.2.1 (F.2.2.1.trans hr) ht hv (fun t ht hW => ⟨⟨_, nx, sh, mu, rfl, h, by rw [ht]; exact hP⟩, hS.F ht⟩) hS.2.2 d F.2.2.2.2.2.2.1
/-- what stands behind a call -/
theorem bs_after {p : Program} {l : Launch} {e : Env} {s : State} {m : MethodId} {args : Array Value} {below : List Frame} {meth : Method} {c : Code} {D : va_G} {dA : Nat → ClassId} {A : Nat → Prop} (F : bs_F p s m args meth c X D dA A) (hE : Z.1 l s args A) {H : Heap} {locs : List Loc} {ls : Array Slot} (hP : bs_rp D dA A nx sh mu H) (hS : va_S A s.heap H locs) (hl : bs_has ls X.2.2.1 lo)
    {mc1 ms1 : Nat} {P1 : bs_Po} {a : Array Value} (hr : va_Run p l e rm s m args below meth c H locs nc ns mc1 ms1 (F0 m pc ls st) rest (bs_Q P1 D dA (bs_A sh nx) a) (bs_A sh nx))
    (kk : ∀ v nx' sh' mu', P1 v nx' sh' mu' → bs_V Z X rm (pc + 3) lo (v.toList ++ rest) (nc + mc1) (ns + ms1) nx' sh' mu') : W p l e rm s m args below meth c H locs nc ns (Z.2 s args below D dA A) (F0 m pc ls st) := by
  intro T hT X0
  obtain ⟨v0, st₀, t, T', L, h0, X', hL, e1, e2, ⟨⟨v, nx', sh', mu', hv, hp, hrp⟩, hz, hk⟩, stp⟩ := hr T hT X0
  cases hv
  rw [h0] at hz hk
  have hAA : ∀ q, bs_A sh nx q → A q := fun q h => by
    rcases h with h | h
    · exact (hP.2 q h).1
    · exact F.2.2.2.2.2.2.2.2.2 q (Nat.le_trans hS.1 (by rw [hP.1]; exact h))
  have hrp' : bs_rp D dA A nx' sh' mu' T'.heap := by rw [e1]; exact hrp.weaken fun q _ h => hAA q h
  have hS' : va_S A s.heap T'.heap (locs ++ L) := ⟨Nat.le_trans hS.1 (by rw [e1]; exact hz), fun q h1 h2 => by
      rw [e1, hk q (Nat.lt_of_lt_of_le h1 hS.1) (fun z => h2 (hAA q z))]; exact hS.2.1 q h1 h2, fun q hq => by
      rcases List.mem_append.mp hq with h | h
      · exact hS.2.2 q h
      · exact hAA _ (hL q h)⟩
  obtain ⟨t2, a1, b1⟩ := kk _ nx' sh' mu' hp p l e s m args below meth c D dA A F hE T'.heap (locs ++ L) ls hrp' hS' hl T' rfl X'
  exact ⟨t2, stp t2 a1, b1⟩
theorem bs_blind {D : va_G} {dA : Nat → ClassId} {av : List Value} : FrameBlind (bs_Pc D dA av nx sh mu) := fun a U g mk q => ⟨q.1, bs_K.same rfl q.2.1, q.2.2⟩
/-- a call's words -/
def bs_cw (Y : bs_M) (n : Nat) : Prop := Cond.initialized Y.1.cls ∈ bs_al ∧ Cond.code Y.1 Y.2.1 Y.2.2.1 Y.2.2.2 ∈ bs_al ∧ Y.1.cls ≠ "java/lang/invoke/MethodHandle" ∧ Y.1.cls ≠ "java/lang/invoke/VarHandle" ∧ (parseMethodDescriptor Y.1.desc).map (fun d => d.parameters.length) = some n
def bs_cv (own : String) (ix : Nat) (Y : bs_M) (n ci : Nat) : Prop := bs_cw Y n ∧ Cond.methodLink own ix Y.1 ∈ bs_al ∧ Cond.instanceMethod Y.1 ∈ bs_al ∧ Cond.selects Y.1.cls Y.1 Y.1 ∈ bs_al ∧ ci < 13 ∧ ∃ q : vw_C, vwCl[ci]? = some q ∧ q.1 = Y.1.cls
def bs_cs (own : String) (ix : Nat) (Y : bs_M) (n : Nat) : Prop := bs_cw Y n ∧ Cond.methodLink own ix Y.1 ∈ bs_al ∧ Cond.static Y.1 ∈ bs_al
def bs_csn (own : String) (ix : Nat) (Y : bs_M) (n : Nat) (host : String) : Prop := bs_cw Y n ∧ (own, ix, Y.1, host) ∈ bs_nl ∧ Cond.static Y.1 ∈ bs_al
def bs_ci (own : String) (ix : Nat) (Y : bs_M) (n : Nat) : Prop := bs_cw Y n ∧ Cond.methodLink own ix Y.1 ∈ bs_al ∧ Y.1.name = "<init>" ∧ Cond.instanceMethod Y.1 ∈ bs_al
def bs_cin (own : String) (ix : Nat) (Y : bs_M) (n : Nat) (host : String) : Prop := bs_cw Y n ∧ (own, ix, Y.1, host) ∈ bs_nl ∧ Y.1.name = "<init>" ∧ Cond.instanceMethod Y.1 ∈ bs_al
def bs_cr (rm rm1 : Room) (nL nc ns : Nat) : Prop := (rm1.frames + 1 ≤ rm.frames ∧ 8 + (nL + 11) + rm1.locals ≤ rm.locals) ∧ nc + rm1.cells ≤ rm.cells ∧ ns + rm1.slots ≤ rm.slots
theorem bs_good {Y : bs_M} (h : Cond.code Y.1 Y.2.1 Y.2.2.1 Y.2.2.2 ∈ bs_al) : GoodIn bs_al (bs_ws Y) := bs_al_good fun w hw => by
  rcases List.mem_cons.mp hw with rfl | hw
  · exact h
  · exact hw
theorem bs_callV {ix n ci b : Nat} {Y : bs_M} {rm1 : Room} {As : List Value} {P1 : bs_Po} (d : decode X.2.1 pc = .ok (.invokevirtual ix, 3)) (w : bs_cv X.1.cls ix Y n ci) (hC : bs_C Y rm1 (.ref b :: As) nx sh mu P1) (hn : As.length = n) (hb : (sh b).1 = ci) (hst : st = As.reverse ++ .ref b :: rest) (hw : (rest.map fun v => v.category).sum ≤ 8) (hR : bs_cr rm rm1 Y.2.2.1 nc ns)
    (kk : ∀ v nx' sh' mu', P1 v nx' sh' mu' → bs_V Z X rm (pc + 3) lo (v.toList ++ rest) (nc + rm1.cells) (ns + rm1.slots) nx' sh' mu') : bs_V Z X rm pc lo st nc ns nx sh mu := by
  intro p l e s m args below meth c D dA A F hE H locs ls hP hS hl
  obtain ⟨⟨w2, w3, w4, w5, w6⟩, w7, w8, w9, h13, q, hq, hqn⟩ := w
  have hts := F.2.2.2.2.2.1
  have hK := F.2.2.2.2.2.2.2.2.1
  have hP1 := hP.one (a := b) (by omega)
  rw [show bs_ce dA sh mu b = .inr (ci, bs_fs ci (mu b)) by simp [bs_ce, hb, h13]] at hP1
  have hrecv := va_recv hK.1 hP1 hq (q0 := 0) rfl
  rw [hqn] at hrecv
  have hg : GoodIn bs_al (wsV X.1.cls ix Y.1.cls Y.1 (bs_ws Y)) := bs_al_good fun w hw => by
    rcases List.mem_append.mp hw with h | h
    · simp only [List.mem_cons, List.not_mem_nil, or_false] at h
      rcases h with rfl | rfl | rfl | rfl
      · exact w7
      · exact w8
      · exact w9
      · exact w2
    · rcases List.mem_cons.mp h with rfl | h
      · exact w3
      · exact h
  exact bs_after F hE hP hS hl (va_runV (As := As) (rest := rest) ⟨F.1, F.2.1, F.2.2.2.1, F.2.2.2.2.1, hts⟩ (hC l D dA) (cwV n hts hg rfl rfl rfl ⟨rfl, w4, w5, w6⟩ hR.1) ⟨bs_blind, hrecv, fun U hU hW => ⟨rfl, hK.warm hW, by rw [hU]; exact hP.weaken fun _ _ _ => trivial⟩⟩ rfl hn hl.1 hst (by show 2 * 0 + _ ≤ _; omega) d hR.2) kk
theorem bs_callS {ix n : Nat} {Y : bs_M} {rm1 : Room} {As : List Value} {P1 : bs_Po} (d : decode X.2.1 pc = .ok (.invokestatic ix, 3)) (w : bs_cs X.1.cls ix Y n) (hC : bs_C Y rm1 As nx sh mu P1) (hn : As.length = n) (hst : st = As.reverse ++ rest) (hw : (rest.map fun v => v.category).sum ≤ 8) (hR : bs_cr rm rm1 Y.2.2.1 nc ns)
    (kk : ∀ v nx' sh' mu', P1 v nx' sh' mu' → bs_V Z X rm (pc + 3) lo (v.toList ++ rest) (nc + rm1.cells) (ns + rm1.slots) nx' sh' mu') : bs_V Z X rm pc lo st nc ns nx sh mu := by
  intro p l e s m args below meth c D dA A F hE H locs ls hP hS hl
  obtain ⟨⟨w2, w3, w4, w5, w6⟩, w7, w8⟩ := w
  have hts := F.2.2.2.2.2.1
  have hK := F.2.2.2.2.2.2.2.2.1
  exact bs_after F hE hP hS hl (va_runS (As := As) (rest := rest) ⟨F.1, F.2.1, F.2.2.2.1, F.2.2.2.2.1, hts⟩ (hC l D dA) ⟨callB_of n hts (bs_good w3) rfl rfl rfl (hts _ (id w2)) (hts _ (id w7)) ⟨w4, w5, w6⟩ hR.1, hts _ (id w8)⟩ ⟨bs_blind, fun U hU hW => ⟨rfl, hK.warm hW, by rw [hU]; exact hP.weaken fun _ _ _ => trivial⟩⟩ rfl hn hl.1 hst (by show 2 * 0 + _ ≤ _; omega) d hR.2) kk
theorem bs_callI {ix n b : Nat} {Y : bs_M} {rm1 : Room} {As : List Value} {P1 : bs_Po} (d : decode X.2.1 pc = .ok (.invokespecial ix, 3)) (w : bs_ci X.1.cls ix Y n) (hret : Y.2.2.2 = none) (hC : bs_C Y rm1 (.ref b :: As) nx sh mu P1) (hn : As.length = n) (hst : st = As.reverse ++ .ref b :: rest) (hw : (rest.map fun v => v.category).sum ≤ 8) (hR : bs_cr rm rm1 Y.2.2.1 nc ns)
    (kk : ∀ v nx' sh' mu', P1 v nx' sh' mu' → bs_V Z X rm (pc + 3) lo (v.toList ++ rest) (nc + rm1.cells) (ns + rm1.slots) nx' sh' mu') : bs_V Z X rm pc lo st nc ns nx sh mu := by
  intro p l e s m args below meth c D dA A F hE H locs ls hP hS hl
  obtain ⟨⟨w2, w3, w4, w5, w6⟩, w7, w8, w9⟩ := w
  have hts := F.2.2.2.2.2.1
  have hK := F.2.2.2.2.2.2.2.2.1
  have hw : bs_ws Y = Cond.code Y.1 Y.2.1 Y.2.2.1 none :: bs_al := by unfold bs_ws; rw [hret]
  exact bs_after F hE hP hS hl (va_runI (As := As) (rest := rest) ⟨F.1, F.2.1, F.2.2.2.1, F.2.2.2.2.1, hts⟩ (hC l D dA) ⟨callB_of n hts (bs_good w3) hw rfl rfl (hts _ (id w2)) (hts _ (id w7)) ⟨w4, w5, w6⟩ hR.1, w8, hts _ (id w9)⟩ ⟨bs_blind, fun U hU hW => ⟨rfl, hK.warm hW, by rw [hU]; exact hP.weaken fun _ _ _ => trivial⟩⟩ rfl hn hl.1 hst (by show 2 * 0 + _ ≤ _; omega) d hR.2) kk
theorem bs_callIN {ix n b : Nat} {host : String} {Y : bs_M} {rm1 : Room} {As : List Value} {P1 : bs_Po} (d : decode X.2.1 pc = .ok (.invokespecial ix, 3)) (w : bs_cin X.1.cls ix Y n host) (hret : Y.2.2.2 = none) (hC : bs_C Y rm1 (.ref b :: As) nx sh mu P1) (hn : As.length = n) (hst : st = As.reverse ++ .ref b :: rest) (hw : (rest.map fun v => v.category).sum ≤ 8) (hR : bs_cr rm rm1 Y.2.2.1 nc ns)
    (kk : ∀ v nx' sh' mu', P1 v nx' sh' mu' → bs_V Z X rm (pc + 3) lo (v.toList ++ rest) (nc + rm1.cells) (ns + rm1.slots) nx' sh' mu') : bs_V Z X rm pc lo st nc ns nx sh mu := by
  intro p l e s m args below meth c D dA A F hE H locs ls hP hS hl
  obtain ⟨⟨w2, w3, w4, w5, w6⟩, w7, w8, w9⟩ := w
  have hts := F.2.2.2.2.2.1
  have hK := F.2.2.2.2.2.2.2.2.1
  have hw : bs_ws Y = Cond.code Y.1 Y.2.1 Y.2.2.1 none :: bs_al := by unfold bs_ws; rw [hret]
  exact bs_after F hE hP hS hl (va_runIN (As := As) (rest := rest) ⟨F.1, F.2.1, F.2.2.2.1, F.2.2.2.2.1, hts⟩ (hC l D dA) ⟨va_cnB n hts (bs_good w3) hw rfl rfl (hK.2.2.2 _ w7) (hts _ (id w2)) ⟨w4, w5, w6⟩ hR.1, w8, hts _ (id w9)⟩ ⟨bs_blind, fun U hU hW => ⟨rfl, hK.warm hW, by rw [hU]; exact hP.weaken fun _ _ _ => trivial⟩⟩ rfl hn hl.1 hst (by show 2 * 0 + _ ≤ _; omega) d hR.2) kk
theorem bs_callSN {ix n : Nat} {host : String} {Y : bs_M} {rm1 : Room} {As : List Value} {P1 : bs_Po} (d : decode X.2.1 pc = .ok (.invokestatic ix, 3)) (w : bs_csn X.1.cls ix Y n host) (hC : bs_C Y rm1 As nx sh mu P1) (hn : As.length = n) (hst : st = As.reverse ++ rest) (hw : (rest.map fun v => v.category).sum ≤ 8) (hR : bs_cr rm rm1 Y.2.2.1 nc ns)
    (kk : ∀ v nx' sh' mu', P1 v nx' sh' mu' → bs_V Z X rm (pc + 3) lo (v.toList ++ rest) (nc + rm1.cells) (ns + rm1.slots) nx' sh' mu') : bs_V Z X rm pc lo st nc ns nx sh mu := by
  intro p l e s m args below meth c D dA A F hE H locs ls hP hS hl
  obtain ⟨⟨w2, w3, w4, w5, w6⟩, w7, w8⟩ := w
  have hts := F.2.2.2.2.2.1
  have hK := F.2.2.2.2.2.2.2.2.1
  exact bs_after F hE hP hS hl (va_runSN (As := As) (rest := rest) ⟨F.1, F.2.1, F.2.2.2.1, F.2.2.2.2.1, hts⟩ (hC l D dA) ⟨va_cnB n hts (bs_good w3) rfl rfl rfl (hK.2.2.2 _ w7) (hts _ (id w2)) ⟨w4, w5, w6⟩ hR.1, hts _ (id w8), trivial⟩ ⟨bs_blind, fun U hU hW => ⟨rfl, hK.warm hW, by rw [hU]; exact hP.weaken fun _ _ _ => trivial⟩⟩ rfl hn hl.1 hst (by show 2 * 0 + _ ≤ _; omega) d hR.2) kk
/-- a contract out of a walk -/
theorem bs_ct {av : List Value} (hy : plainName X.1.cls = true) (hlen : (lg_sl av).length ≤ X.2.2.1) (body : bs_W Ph X rm 0 (bs_mk (lv_args 0 av)) [] 0 0 nx sh mu) : bs_C X rm av nx sh mu Ph := by
  intro l D dA
  refine Met.ofW (cc := X.2.1) (maxL := X.2.2.1) (ret := X.2.2.2) hy rfl ?_
  intro p e s m args below meth c s₁ B hml hv
  obtain ⟨rfl, hK, hP⟩ := hv
  have hts := atoms_spec (ws := bs_ws X) B.pre
  have F : bs_F p s m av.toArray meth c X D dA (bs_A sh nx) := ⟨B.exec, B.bytes, B.returns, hml, findClass_of_methodNamed B.named, fun w h => hts w (List.mem_cons_of_mem _ h), B.notSynchronized, (name_of_methodNamed B.named B.method).1, hK, fun q h => Or.inr (by rw [hP.1] at h; exact h)⟩
  rw [lg_entry_eq]
  have hl := lv_entry av (n := X.2.2.1) hlen
  exact body p l e s m _ below meth c D dA _ F trivial s.heap [] _ hP.self va_S.rf ⟨hl.1, hl.2.1, fun i v h => hl.2.2 (i, v) (bs_mk_in _ i v h)⟩
theorem bs_C.post {av : List Value} {Ph' : bs_Po} (k : bs_C X rm av nx sh mu Ph') (h : ∀ v n s m, Ph' v n s m → Ph v n s m) : bs_C X rm av nx sh mu Ph := fun l D dA =>
  (k l D dA).mono (fun _ _ h => h) (fun _ _ _ _ _ h => h) fun a s o t _ hq => ⟨⟨by
    obtain ⟨v, n, s', m', e1, e2, e3⟩ := hq.1.1
    exact ⟨v, n, s', m', e1, h _ _ _ _ e2, e3⟩, hq.1.2⟩, hq.2⟩
end BSR
