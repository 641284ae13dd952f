/-! FUNCTIONS (own): each method as a function of the memory; combinators and the rules that walk them -/
def fg_fu : Nat := 2000000
/-- what never changes: references laid by the constructors -/
def fg_R (R : Nat → Nat → Option Nat) (mu : bs_Mm) : Prop := ∀ a k b, R a k = some b → bs_rv (mu a k) = some b
def fg_S (T : List bs_Ce) (R : Nat → Nat → Option Nat) (x : Nat) (sh : bs_Sh) : Prop := ∀ i q, T[i]? = some q → sh (x + i) = q.1 ∧ ∀ k, R (x + i) k = bs_rv (q.2 k)
theorem fg_R.up {R : Nat → Nat → Option Nat} {mu : bs_Mm} (h : fg_R R mu) {a k : Nat} {v : Value} (hn : R a k = none) : fg_R R (bs_up mu a k v) := fun b j c hc => by
  by_cases e : b = a ∧ j = k
  · obtain ⟨rfl, rfl⟩ := e
    rw [hn] at hc
    cases hc
  · rw [bs_up_ne _ _ e]
    exact h b j c hc
theorem fg_R.fi {R : Nat → Nat → Option Nat} {mu : bs_Mm} (h : fg_R R mu) {a n : Nat} {v : Value} (hn : ∀ j, R a j = none) : fg_R R (bs_fi mu a n v) := fun b j c hc => by
  have e : b ≠ a := fun e => by subst e; rw [hn j] at hc; cases hc
  have : bs_fi mu a n v b j = mu b j := by simp [bs_fi, e]
  rw [this]
  exact h b j c hc
theorem fg_R.cp {R : Nat → Nat → Option Nat} {mu : bs_Mm} (h : fg_R R mu) {a0 a sp dp n : Nat} (hn : ∀ j, R a j = none) : fg_R R (bs_cp mu a0 a sp dp n) := fun b j c hc => by
  have e : b ≠ a := fun e => by subst e; rw [hn j] at hc; cases hc
  have : bs_cp mu a0 a sp dp n b j = mu b j := by simp [bs_cp, e]
  rw [this]
  exact h b j c hc
section FGS
variable {T : List bs_Ce} {x a : Nat} {sh : bs_Sh} {R : Nat → Nat → Option Nat}
theorem fg_S.s (H : fg_S T R x sh) (i : Nat) {q : bs_Ce} {c : Nat} (hq : T[i]? = some q) (ha : a = x + i) (hc : q.1.1 = c) : (sh a).1 = c := by
  subst ha; rw [(H i q hq).1]; exact hc
theorem fg_S.ss (H : fg_S T R x sh) (i : Nat) {q : bs_Ce} (hq : T[i]? = some q) (ha : a = x + i) : sh a = q.1 := by
  subst ha; exact (H i q hq).1
theorem fg_S.r (H : fg_S T R x sh) (i k : Nat) {q : bs_Ce} {b : Nat} (hq : T[i]? = some q) (ha : a = x + i) (hb : bs_rv (q.2 k) = some b) : R a k = some b := by
  subst ha; rw [(H i q hq).2 k]; exact hb
theorem fg_S.n (H : fg_S T R x sh) (i k : Nat) {q : bs_Ce} (hq : T[i]? = some q) (ha : a = x + i) (hb : bs_rv (q.2 k) = none) : R a k = none := by
  subst ha; rw [(H i q hq).2 k]; exact hb
end FGS
/-- a figure, a rule, a row -/
def fg_F (R : Nat → Nat → Option Nat) (sh : bs_Sh) (f : Nat) : Prop := ((sh f).1 = 1 ∧ sh (f + 1) = (14, 6) ∧ sh (f + 2) = (14, 24) ∧ sh (f + 3) = (14, 24) ∧ sh (f + 4) = (14, 24) ∧ sh (f + 5) = (14, 24) ∧ sh (f + 6) = (14, 30)) ∧ (R f 0 = some (f + 1) ∧ R f 1 = some (f + 2) ∧ R f 2 = some (f + 3) ∧ R f 3 = some (f + 4) ∧ R f 4 = some (f + 5) ∧ R f 5 = some (f + 6)) ∧ (R f 6 = none ∧ R f 7 = none ∧ R f 8 = none ∧ R f 9 = none) ∧ ∀ i j, 1 ≤ i → i ≤ 6 → R (f + i) j = none
def fg_U (R : Nat → Nat → Option Nat) (sh : bs_Sh) (u : Nat) : Prop := (sh u).1 = 6 ∧ sh (u + 1) = (14, 201) ∧ R u 0 = some (u + 1) ∧ R u 1 = none ∧ ∀ j, R (u + 1) j = none
def fg_A (R : Nat → Nat → Option Nat) (sh : bs_Sh) (a n : Nat) : Prop := sh a = (14, n) ∧ (∀ j, R a j = none) ∧ n < 2 ^ 31
def fg_B (R : Nat → Nat → Option Nat) (sh : bs_Sh) (a n : Nat) : Prop := sh a = (15, n) ∧ (∀ j, R a j = none) ∧ n < 2 ^ 31
section FGF
variable {R : Nat → Nat → Option Nat} {sh : bs_Sh} {f : Nat}
theorem fg_F.s0 (h : fg_F R sh f) : (sh f).1 = 1 := h.1.1
theorem fg_F.s1 (h : fg_F R sh f) : sh (f + 1) = (14, 6) := h.1.2.1
theorem fg_F.s2 (h : fg_F R sh f) : sh (f + 2) = (14, 24) := h.1.2.2.1
theorem fg_F.s3 (h : fg_F R sh f) : sh (f + 3) = (14, 24) := h.1.2.2.2.1
theorem fg_F.s4 (h : fg_F R sh f) : sh (f + 4) = (14, 24) := h.1.2.2.2.2.1
theorem fg_F.s5 (h : fg_F R sh f) : sh (f + 5) = (14, 24) := h.1.2.2.2.2.2.1
theorem fg_F.s6 (h : fg_F R sh f) : sh (f + 6) = (14, 30) := h.1.2.2.2.2.2.2
theorem fg_F.r0 (h : fg_F R sh f) : R f 0 = some (f + 1) := h.2.1.1
theorem fg_F.r1 (h : fg_F R sh f) : R f 1 = some (f + 2) := h.2.1.2.1
theorem fg_F.r2 (h : fg_F R sh f) : R f 2 = some (f + 3) := h.2.1.2.2.1
theorem fg_F.r3 (h : fg_F R sh f) : R f 3 = some (f + 4) := h.2.1.2.2.2.1
theorem fg_F.r4 (h : fg_F R sh f) : R f 4 = some (f + 5) := h.2.1.2.2.2.2.1
theorem fg_F.r5 (h : fg_F R sh f) : R f 5 = some (f + 6) := h.2.1.2.2.2.2.2
theorem fg_F.n6 (h : fg_F R sh f) : R f 6 = none := h.2.2.1.1
theorem fg_F.n7 (h : fg_F R sh f) : R f 7 = none := h.2.2.1.2.1
theorem fg_F.n8 (h : fg_F R sh f) : R f 8 = none := h.2.2.1.2.2.1
theorem fg_F.n9 (h : fg_F R sh f) : R f 9 = none := h.2.2.1.2.2.2
theorem fg_F.j1 (h : fg_F R sh f) (j : Nat) : R (f + 1) j = none := h.2.2.2 1 j (by decide) (by decide)
theorem fg_F.j2 (h : fg_F R sh f) (j : Nat) : R (f + 2) j = none := h.2.2.2 2 j (by decide) (by decide)
theorem fg_F.j3 (h : fg_F R sh f) (j : Nat) : R (f + 3) j = none := h.2.2.2 3 j (by decide) (by decide)
theorem fg_F.j4 (h : fg_F R sh f) (j : Nat) : R (f + 4) j = none := h.2.2.2 4 j (by decide) (by decide)
theorem fg_F.j5 (h : fg_F R sh f) (j : Nat) : R (f + 5) j = none := h.2.2.2 5 j (by decide) (by decide)
theorem fg_F.j6 (h : fg_F R sh f) (j : Nat) : R (f + 6) j = none := h.2.2.2 6 j (by decide) (by decide)
end FGF
theorem fg_F.ofS {T : List bs_Ce} {R : Nat → Nat → Option Nat} {x : Nat} {sh : bs_Sh} (H : fg_S T R x sh) (i : Nat) (h0 : T[i]? = some ((1, 10), bs_li0 [.ref (x + i + 1), .ref (x + i + 2), .ref (x + i + 3), .ref (x + i + 4), .ref (x + i + 5), .ref (x + i + 6), .null, .null, .null, .null])) (h1 : T[i + 1]? = some ((14, 6), fun _ => .null)) (h2 : T[i + 2]? = some ((14, 24), fun _ => .null)) (h3 : T[i + 3]? = some ((14, 24), fun _ => .null)) (h4 : T[i + 4]? = some ((14, 24), fun _ => .null)) (h5 : T[i + 5]? = some ((14, 24), fun _ => .null)) (h6 : T[i + 6]? = some ((14, 30), fun _ => .null)) : fg_F R sh (x + i) := by
  refine ⟨⟨H.s i h0 rfl rfl, H.ss (i + 1) h1 rfl, H.ss (i + 2) h2 rfl, H.ss (i + 3) h3 rfl, H.ss (i + 4) h4 rfl, H.ss (i + 5) h5 rfl, H.ss (i + 6) h6 rfl⟩, ⟨H.r i 0 h0 rfl rfl, H.r i 1 h0 rfl rfl, H.r i 2 h0 rfl rfl, H.r i 3 h0 rfl rfl, H.r i 4 h0 rfl rfl, H.r i 5 h0 rfl rfl⟩, ⟨H.n i 6 h0 rfl rfl, H.n i 7 h0 rfl rfl, H.n i 8 h0 rfl rfl, H.n i 9 h0 rfl rfl⟩, fun k j k1 k2 => ?_⟩
  match k, k1, k2 with
  | 1, _, _ => exact H.n (i + 1) j h1 rfl rfl
  | 2, _, _ => exact H.n (i + 2) j h2 rfl rfl
  | 3, _, _ => exact H.n (i + 3) j h3 rfl rfl
  | 4, _, _ => exact H.n (i + 4) j h4 rfl rfl
  | 5, _, _ => exact H.n (i + 5) j h5 rfl rfl
  | 6, _, _ => exact H.n (i + 6) j h6 rfl rfl
/-- one of the twelve figures at x -/
def fg_isF (x f : Nat) : Bool := decide (x + 63 ≤ f ∧ f < x + 147 ∧ (f - (x + 63)) % 7 = 0)
def fg_isU (x f : Nat) : Bool := decide (x + 147 ≤ f ∧ f < x + 159 ∧ (f - (x + 147)) % 2 = 0)
theorem fg_isF_y {x j : Nat} (h : j < 12) : fg_isF x (x + 63 + 7 * j) = true := by
  refine decide_eq_true ⟨by omega, by omega, by omega⟩
theorem fg_isU_y {x j : Nat} (h : j < 6) : fg_isU x (x + 147 + 2 * j) = true := by
  refine decide_eq_true ⟨by omega, by omega, by omega⟩
set_option maxRecDepth 20000 in
set_option maxHeartbeats 4000000 in
theorem fg_F12 {R : Nat → Nat → Option Nat} {x : Nat} {sh : bs_Sh} (H : fg_S (bs_tS x) R x sh) (k : Nat) (hk : k < 12) : fg_F R sh (x + 63 + 7 * k) := by
  match k, hk with
  | 0, _ => exact fg_F.ofS H 63 rfl rfl rfl rfl rfl rfl rfl
  | 1, _ => exact fg_F.ofS H 70 rfl rfl rfl rfl rfl rfl rfl
  | 2, _ => exact fg_F.ofS H 77 rfl rfl rfl rfl rfl rfl rfl
  | 3, _ => exact fg_F.ofS H 84 rfl rfl rfl rfl rfl rfl rfl
  | 4, _ => exact fg_F.ofS H 91 rfl rfl rfl rfl rfl rfl rfl
  | 5, _ => exact fg_F.ofS H 98 rfl rfl rfl rfl rfl rfl rfl
  | 6, _ => exact fg_F.ofS H 105 rfl rfl rfl rfl rfl rfl rfl
  | 7, _ => exact fg_F.ofS H 112 rfl rfl rfl rfl rfl rfl rfl
  | 8, _ => exact fg_F.ofS H 119 rfl rfl rfl rfl rfl rfl rfl
  | 9, _ => exact fg_F.ofS H 126 rfl rfl rfl rfl rfl rfl rfl
  | 10, _ => exact fg_F.ofS H 133 rfl rfl rfl rfl rfl rfl rfl
  | 11, _ => exact fg_F.ofS H 140 rfl rfl rfl rfl rfl rfl rfl
theorem fg_Fd {R : Nat → Nat → Option Nat} {x : Nat} {sh : bs_Sh} (H : fg_S (bs_tS x) R x sh) : fg_F R sh (x + 10) := fg_F.ofS H 10 rfl rfl rfl rfl rfl rfl rfl
theorem fg_isF_F {R : Nat → Nat → Option Nat} {x f : Nat} {sh : bs_Sh} (H : fg_S (bs_tS x) R x sh) (h : fg_isF x f = true) : fg_F R sh f := by
  have h := of_decide_eq_true h
  have e : f = x + 63 + 7 * ((f - (x + 63)) / 7) := by omega
  rw [e]
  exact fg_F12 H _ (by omega)
theorem fg_U.ofS {T : List bs_Ce} {R : Nat → Nat → Option Nat} {x : Nat} {sh : bs_Sh} (H : fg_S T R x sh) (i : Nat) (h0 : T[i]? = some ((6, 2), bs_li0 [.ref (x + i + 1), .null])) (h1 : T[i + 1]? = some ((14, 201), fun _ => .null)) : fg_U R sh (x + i) :=
  ⟨H.s i h0 rfl rfl, H.ss (i + 1) h1 rfl, H.r i 0 h0 rfl rfl, H.n i 1 h0 rfl rfl, fun j => H.n (i + 1) j h1 rfl rfl⟩
set_option maxRecDepth 20000 in
set_option maxHeartbeats 4000000 in
theorem fg_U6 {R : Nat → Nat → Option Nat} {x : Nat} {sh : bs_Sh} (H : fg_S (bs_tS x) R x sh) (k : Nat) (hk : k < 6) : fg_U R sh (x + 147 + 2 * k) := by
  match k, hk with
  | 0, _ => exact fg_U.ofS H 147 rfl rfl
  | 1, _ => exact fg_U.ofS H 149 rfl rfl
  | 2, _ => exact fg_U.ofS H 151 rfl rfl
  | 3, _ => exact fg_U.ofS H 153 rfl rfl
  | 4, _ => exact fg_U.ofS H 155 rfl rfl
  | 5, _ => exact fg_U.ofS H 157 rfl rfl
theorem fg_Ud {R : Nat → Nat → Option Nat} {x : Nat} {sh : bs_Sh} (H : fg_S (bs_tS x) R x sh) : fg_U R sh (x + 21) := fg_U.ofS H 21 rfl rfl
theorem fg_isU_U {R : Nat → Nat → Option Nat} {x f : Nat} {sh : bs_Sh} (H : fg_S (bs_tS x) R x sh) (h : fg_isU x f = true) : fg_U R sh f := by
  have h := of_decide_eq_true h
  have e : f = x + 147 + 2 * ((f - (x + 147)) / 2) := by omega
  rw [e]
  exact fg_U6 H _ (by omega)
theorem fg_fR {R : Nat → Nat → Option Nat} {x : Nat} {sh : bs_Sh} (H : fg_S (bs_tS x) R x sh) (k : Nat) (hk : k < 12) : R (x + 7) k = some (x + 63 + 7 * k) := H.r 7 k (q := ((17, 12), bs_fa x 12)) rfl rfl (by simp [bs_fa, hk, bs_rv])
theorem fg_uR {R : Nat → Nat → Option Nat} {x : Nat} {sh : bs_Sh} (H : fg_S (bs_tS x) R x sh) (k : Nat) (hk : k < 6) : R (x + 8) k = some (x + 147 + 2 * k) := H.r 8 k (q := ((18, 6), bs_ra x 6)) rfl rfl (by simp [bs_ra, hk, bs_rv])
/-- a place in a row of n -/
def fg_in (i : Int32) (n : Nat) : Bool := decide (¬ (i < 0 ∨ n ≤ i.toNatClampNeg))
theorem fg_in_ix {i : Int32} {n : Nat} (h : fg_in i n = true) : bs_ix i i.toNatClampNeg n := ⟨rfl, show ¬ (i < 0 ∨ n ≤ i.toNatClampNeg) from of_decide_eq_true h⟩
theorem fg_in_lt {i : Int32} {n : Nat} (h : fg_in i n = true) : i.toNatClampNeg < n := (fg_in_ix h).lt
theorem fg_in_y {j n : Nat} (h : j < n) (hn : n < 2 ^ 31) : fg_in (nI j) n = true := decide_eq_true (bs_ix_n h hn).2
def fg_gd {α : Type} (b : Bool) (k : Option α) : Option α := match b with | true => k | false => none
def fg_bd {α β : Type} (o : Option α) (k : α → Option β) : Option β := match o with | some a => k a | none => none
def fg_b2 {α β : Type} (o : Option (α × bs_Mm)) (k : α → bs_Mm → Option β) : Option β := match o with | some a => k a.1 a.2 | none => none
def fg_wr {β : Type} (mu : bs_Mm) (a j : Nat) (v : Value) (k : bs_Mm → Option β) : Option β := k (bs_up mu a j v)
def fg_l3 {τ ρ β : Type} (o : Option (τ ⊕ ρ)) (k : τ → Option β) (kr : ρ → Option β) : Option β := match o with | some (.inl t) => k t | some (.inr q) => kr q | none => none
def fg_oq {β : Type} (q : Option Nat) (k0 : Option β) (k : Nat → Option β) : Option β := match q with | none => k0 | some b => k b
def fg_lp {σ τ : Type} (body : σ → Option (σ ⊕ τ)) : Nat → σ → Option τ
  | 0, _ => none
  | n + 1, s => match body s with | none => none | some (.inl s') => fg_lp body n s' | some (.inr t) => some t
theorem fg_gdE {α : Type} {b : Bool} {k : Option α} {r : α} (h : fg_gd b k = some r) : b = true ∧ k = some r := by
  cases b
  · cases h
  · exact ⟨rfl, h⟩
theorem fg_bdE {α β : Type} {o : Option α} {k : α → Option β} {r : β} (h : fg_bd o k = some r) : ∃ a, o = some a ∧ k a = some r := by
  cases o with
  | none => cases h
  | some a => exact ⟨a, rfl, h⟩
theorem fg_b2E {α β : Type} {o : Option (α × bs_Mm)} {k : α → bs_Mm → Option β} {r : β} (h : fg_b2 o k = some r) : ∃ a mu, o = some (a, mu) ∧ k a mu = some r := by
  cases o with
  | none => cases h
  | some a => exact ⟨a.1, a.2, rfl, h⟩
theorem fg_l3E {τ ρ β : Type} {o : Option (τ ⊕ ρ)} {k : τ → Option β} {kr : ρ → Option β} {r : β} (h : fg_l3 o k kr = some r) : ∃ t, o = some t ∧ (∀ e, t = .inl e → k e = some r) ∧ ∀ q, t = .inr q → kr q = some r := by
  match o, h with
  | none, h => cases h
  | some (.inl t), h => exact ⟨.inl t, rfl, fun e he => (by cases he; exact h), fun q he => (by cases he)⟩
  | some (.inr q), h => exact ⟨.inr q, rfl, fun e he => (by cases he), fun q' he => (by cases he; exact h)⟩
theorem fg_lpE {σ τ : Type} {body : σ → Option (σ ⊕ τ)} {n : Nat} {s : σ} {t : τ} (h : fg_lp body (n + 1) s = some t) : ∃ r, body s = some r ∧ (∀ s', r = .inl s' → fg_lp body n s' = some t) ∧ ∀ t', r = .inr t' → t' = t := by
  unfold fg_lp at h
  match hb : body s, h with
  | none, h => cases h
  | some (.inl s'), h => exact ⟨_, rfl, fun s2 e => (by cases e; exact h), fun t' e => (by cases e)⟩
  | some (.inr t2), h => exact ⟨_, rfl, fun s2 e => (by cases e), fun t' e => (by cases e; cases h; rfl)⟩
theorem fg_lp0 {σ τ : Type} {body : σ → Option (σ ⊕ τ)} {s : σ} {t : τ} (h : fg_lp body 0 s = some t) : False := by cases h
theorem fg_ip {α : Sort _} {c : Prop} {inst : Decidable c} {a b r : α} (hc : c) (h : ite c a b = r) : a = r := (if_pos hc).symm.trans h
theorem fg_iN {α : Sort _} {c : Prop} {inst : Decidable c} {a b r : α} (hc : ¬ c) (h : ite c a b = r) : b = r := (if_neg hc).symm.trans h
/-- an answer and this memory -/
def fg_po (R : Nat → Nat → Option Nat) (nx : Nat) (sh : bs_Sh) (v : Option Value) (mu1 : bs_Mm) : bs_Po := fun r nx' sh' mu' => r = v ∧ nx' = nx ∧ sh' = sh ∧ mu' = mu1 ∧ fg_R R mu1
section FGW
variable {Ph : bs_Po} {Z : bs_Z} {X : bs_M} {rm : Room} {pc : Nat} {lo : bs_L} {st rest : List Value} {nc ns nx : Nat} {sh : bs_Sh} {mu : bs_Mm} {R : Nat → Nat → Option Nat}
theorem fg_getR {ix ci k a b : Nat} (d : decode X.2.1 pc = .ok (.getfield ix, 3)) (w : bs_gr X.1.cls ix ci k) (hs : (sh a).1 = ci) (hR : fg_R R mu) (hr : R a k = some b) (kk : bs_V Z X rm (pc + 3) lo (.ref b :: rest) nc ns nx sh mu) : bs_V Z X rm pc lo (.ref a :: rest) nc ns nx sh mu := bs_getR d w hs (hR _ _ _ hr) kk
theorem fg_aald {a k n j b : Nat} {i : Int32} (d : decode X.2.1 pc = .ok (.aaload, 1)) (hs : sh a = (k, n)) (hk : k = 17 ∨ k = 18) (hi : bs_ix i j n) (hR : fg_R R mu) (hr : R a j = some b) (kk : bs_V Z X rm (pc + 1) lo (.ref b :: rest) nc ns nx sh mu) : bs_V Z X rm pc lo (.int i :: .ref a :: rest) nc ns nx sh mu := bs_aaldR d hs hk hi (hR _ _ _ hr) kk
theorem fg_iast {a n : Nat} {i x : Int32} {β : Type} {k : bs_Mm → Option β} {r : β} (d : decode X.2.1 pc = .ok (.iastore, 1)) (hs : sh a = (14, n)) (hn : ∀ j, R a j = none) (hi : fg_in i n = true) (hR : fg_R R mu) (h : fg_wr mu a i.toNatClampNeg (.int x) k = some r) (kk : ∀ mu1, fg_R R mu1 → k mu1 = some r → bs_V Z X rm (pc + 1) lo rest nc ns nx sh mu1) : bs_V Z X rm pc lo (.int x :: .int i :: .ref a :: rest) nc ns nx sh mu := bs_iast d hs (fg_in_ix hi) (kk _ (hR.up (hn _)) h)
theorem fg_zast {a n : Nat} {i x : Int32} {β : Type} {k : bs_Mm → Option β} {r : β} (d : decode X.2.1 pc = .ok (.bastore, 1)) (hs : sh a = (16, n)) (hn : ∀ j, R a j = none) (hi : fg_in i n = true) (hx : x = 0 ∨ x = 1) (hR : fg_R R mu) (h : fg_wr mu a i.toNatClampNeg (.int x) k = some r) (kk : ∀ mu1, fg_R R mu1 → k mu1 = some r → bs_V Z X rm (pc + 1) lo rest nc ns nx sh mu1) : bs_V Z X rm pc lo (.int x :: .int i :: .ref a :: rest) nc ns nx sh mu := bs_zast d hs (fg_in_ix hi) hx (kk _ (hR.up (hn _)) h)
theorem fg_cast {a n : Nat} {i x : Int32} {β : Type} {k : bs_Mm → Option β} {r : β} (d : decode X.2.1 pc = .ok (.castore, 1)) (hs : sh a = (13, n)) (hn : ∀ j, R a j = none) (hi : fg_in i n = true) (hR : fg_R R mu) (h : fg_wr mu a i.toNatClampNeg (.int (x.toUInt32 % 65536).toInt32) k = some r) (hx : narrow .char (.int (x.toUInt32 % 65536).toInt32) = .int (x.toUInt32 % 65536).toInt32) (kk : ∀ mu1, fg_R R mu1 → k mu1 = some r → bs_V Z X rm (pc + 1) lo rest nc ns nx sh mu1) : bs_V Z X rm pc lo (.int (x.toUInt32 % 65536).toInt32 :: .int i :: .ref a :: rest) nc ns nx sh mu := bs_cast d hs (fg_in_ix hi) hx (kk _ (hR.up (hn _)) h)
theorem fg_last {a n : Nat} {i : Int32} {x : Int64} {β : Type} {k : bs_Mm → Option β} {r : β} (d : decode X.2.1 pc = .ok (.lastore, 1)) (hs : sh a = (15, n)) (hn : ∀ j, R a j = none) (hi : fg_in i n = true) (hR : fg_R R mu) (h : fg_wr mu a i.toNatClampNeg (.long x) k = some r) (kk : ∀ mu1, fg_R R mu1 → k mu1 = some r → bs_V Z X rm (pc + 1) lo rest nc ns nx sh mu1) : bs_V Z X rm pc lo (.long x :: .int i :: .ref a :: rest) nc ns nx sh mu := bs_last d hs (fg_in_ix hi) (kk _ (hR.up (hn _)) h)
theorem fg_putI {ix ci k0 a : Nat} {x : Int32} {β : Type} {k : bs_Mm → Option β} {r : β} (d : decode X.2.1 pc = .ok (.putfield ix, 3)) (w : bs_gf X.1.cls ix ci k0 ∧ bs_ty ci k0 = .int ∧ bs_nfin ci k0) (hs : (sh a).1 = ci) (hn : R a k0 = none) (hR : fg_R R mu) (h : fg_wr mu a k0 (.int x) k = some r) (kk : ∀ mu1, fg_R R mu1 → k mu1 = some r → bs_V Z X rm (pc + 3) lo rest nc ns nx sh mu1) : bs_V Z X rm pc lo (.int x :: .ref a :: rest) nc ns nx sh mu := bs_putI d w hs (kk _ (hR.up hn) h)
theorem fg_putZ {ix ci k0 a : Nat} {x : Int32} {β : Type} {k : bs_Mm → Option β} {r : β} (d : decode X.2.1 pc = .ok (.putfield ix, 3)) (w : bs_gf X.1.cls ix ci k0 ∧ bs_ty ci k0 = .boolean ∧ bs_nfin ci k0) (hs : (sh a).1 = ci) (hn : R a k0 = none) (hx : x = 0 ∨ x = 1) (hR : fg_R R mu) (h : fg_wr mu a k0 (.int x) k = some r) (kk : ∀ mu1, fg_R R mu1 → k mu1 = some r → bs_V Z X rm (pc + 3) lo rest nc ns nx sh mu1) : bs_V Z X rm pc lo (.int x :: .ref a :: rest) nc ns nx sh mu := bs_putZ d w hs hx (kk _ (hR.up hn) h)
theorem fg_putL {ix ci k0 a : Nat} {x : Int64} {β : Type} {k : bs_Mm → Option β} {r : β} (d : decode X.2.1 pc = .ok (.putfield ix, 3)) (w : bs_gf X.1.cls ix ci k0 ∧ bs_ty ci k0 = .long ∧ bs_nfin ci k0) (hs : (sh a).1 = ci) (hn : R a k0 = none) (hR : fg_R R mu) (h : fg_wr mu a k0 (.long x) k = some r) (kk : ∀ mu1, fg_R R mu1 → k mu1 = some r → bs_V Z X rm (pc + 3) lo rest nc ns nx sh mu1) : bs_V Z X rm pc lo (.long x :: .ref a :: rest) nc ns nx sh mu := bs_putL d w hs (kk _ (hR.up hn) h)
theorem fg_putR {ix ci k0 a b : Nat} {β : Type} {k : bs_Mm → Option β} {r : β} (d : decode X.2.1 pc = .ok (.putfield ix, 3)) (w : bs_gf X.1.cls ix ci k0 ∧ bs_isr (bs_ty ci k0) ∧ bs_nfin ci k0) (hs : (sh a).1 = ci) (hn : R a k0 = none) (hR : fg_R R mu) (h : fg_wr mu a k0 (.ref b) k = some r) (kk : ∀ mu1, fg_R R mu1 → k mu1 = some r → bs_V Z X rm (pc + 3) lo rest nc ns nx sh mu1) : bs_V Z X rm pc lo (.ref b :: .ref a :: rest) nc ns nx sh mu := bs_putR d w hs (kk _ (hR.up hn) h)
theorem fg_iinc {i : Nat} {n : Int} {x m : Int32} (d : decode X.2.1 pc = .ok (.iinc i n, 3)) (hv : lo i = some (.int x)) (hok : bs_ok lo i = true) (hm : Int32.ofInt n = m) (k : bs_V Z X rm (pc + 3) (bs_st lo i (.int (x + m))) st nc ns nx sh mu) : bs_V Z X rm pc lo st nc ns nx sh mu := by
  subst hm
  exact bs_iinc d hv hok k
theorem fg_callV {ix n ci b d0 : Nat} {Y : bs_M} {As : List Value} {w0 : Value} {mu1 : bs_Mm} (d : decode X.2.1 pc = .ok (.invokevirtual ix, 3)) (w : bs_cv X.1.cls ix Y n ci) (hC : bs_C Y (bs_rm d0 0 0) (.ref b :: As) nx sh mu (fg_po R nx sh (some w0) mu1)) (hn : As.length = n) (hb : (sh b).1 = ci) (hst : st = As.reverse ++ .ref b :: rest) (hw : (rest.map fun v => v.category).sum ≤ 8) (hR : bs_cr rm (bs_rm d0 0 0) Y.2.2.1 nc ns)
    (kk : fg_R R mu1 → bs_V Z X rm (pc + 3) lo (w0 :: rest) nc ns nx sh mu1) : bs_V Z X rm pc lo st nc ns nx sh mu :=
  bs_callV d w hC hn hb hst hw hR fun v nx' sh' mu' h => by
    obtain ⟨e1, e2, e3, e4, e5⟩ := h
    rw [e1, e2, e3, e4]
    exact kk e5
theorem fg_callVv {ix n ci b d0 : Nat} {Y : bs_M} {As : List Value} {mu1 : bs_Mm} (d : decode X.2.1 pc = .ok (.invokevirtual ix, 3)) (w : bs_cv X.1.cls ix Y n ci) (hC : bs_C Y (bs_rm d0 0 0) (.ref b :: As) nx sh mu (fg_po R nx sh none mu1)) (hn : As.length = n) (hb : (sh b).1 = ci) (hst : st = As.reverse ++ .ref b :: rest) (hw : (rest.map fun v => v.category).sum ≤ 8) (hR : bs_cr rm (bs_rm d0 0 0) Y.2.2.1 nc ns)
    (kk : fg_R R mu1 → bs_V Z X rm (pc + 3) lo rest nc ns nx sh mu1) : bs_V Z X rm pc lo st nc ns nx sh mu :=
  bs_callV d w hC hn hb hst hw hR fun v nx' sh' mu' h => by
    obtain ⟨e1, e2, e3, e4, e5⟩ := h
    rw [e1, e2, e3, e4]
    exact kk e5
theorem fg_callS {ix n d0 : Nat} {Y : bs_M} {As : List Value} {w0 : Value} {mu1 : bs_Mm} (d : decode X.2.1 pc = .ok (.invokestatic ix, 3)) (w : bs_cs X.1.cls ix Y n) (hC : bs_C Y (bs_rm d0 0 0) As nx sh mu (fg_po R nx sh (some w0) mu1)) (hn : As.length = n) (hst : st = As.reverse ++ rest) (hw : (rest.map fun v => v.category).sum ≤ 8) (hR : bs_cr rm (bs_rm d0 0 0) Y.2.2.1 nc ns)
    (kk : fg_R R mu1 → bs_V Z X rm (pc + 3) lo (w0 :: rest) nc ns nx sh mu1) : bs_V Z X rm pc lo st nc ns nx sh mu :=
  bs_callS d w hC hn hst hw hR fun v nx' sh' mu' h => by
    obtain ⟨e1, e2, e3, e4, e5⟩ := h
    rw [e1, e2, e3, e4]
    exact kk e5
theorem fg_callSv {ix n d0 : Nat} {Y : bs_M} {As : List Value} {mu1 : bs_Mm} (d : decode X.2.1 pc = .ok (.invokestatic ix, 3)) (w : bs_cs X.1.cls ix Y n) (hC : bs_C Y (bs_rm d0 0 0) As nx sh mu (fg_po R nx sh none mu1)) (hn : As.length = n) (hst : st = As.reverse ++ rest) (hw : (rest.map fun v => v.category).sum ≤ 8) (hR : bs_cr rm (bs_rm d0 0 0) Y.2.2.1 nc ns)
    (kk : fg_R R mu1 → bs_V Z X rm (pc + 3) lo rest nc ns nx sh mu1) : bs_V Z X rm pc lo st nc ns nx sh mu :=
  bs_callS d w hC hn hst hw hR fun v nx' sh' mu' h => by
    obtain ⟨e1, e2, e3, e4, e5⟩ := h
    rw [e1, e2, e3, e4]
    exact kk e5
theorem fg_callSN {ix n d0 : Nat} {host : String} {Y : bs_M} {As : List Value} {w0 : Value} {mu1 : bs_Mm} (d : decode X.2.1 pc = .ok (.invokestatic ix, 3)) (w : bs_csn X.1.cls ix Y n host) (hC : bs_C Y (bs_rm d0 0 0) As nx sh mu (fg_po R nx sh (some w0) mu1)) (hn : As.length = n) (hst : st = As.reverse ++ rest) (hw : (rest.map fun v => v.category).sum ≤ 8) (hR : bs_cr rm (bs_rm d0 0 0) Y.2.2.1 nc ns)
    (kk : fg_R R mu1 → bs_V Z X rm (pc + 3) lo (w0 :: rest) nc ns nx sh mu1) : bs_V Z X rm pc lo st nc ns nx sh mu :=
  bs_callSN d w hC hn hst hw hR fun v nx' sh' mu' h => by
    obtain ⟨e1, e2, e3, e4, e5⟩ := h
    rw [e1, e2, e3, e4]
    exact kk e5
theorem fg_tabD {dflt lw hi : Int} {offs : Array Int} {len : Nat} {x : Int32} {tgt b : Nat} {sp : List Nat} (d : decode X.2.1 pc = .ok (.tableswitch dflt lw hi offs, len)) (hb : lw = (b : Int)) (hz : (offs.size : Int) = hi - lw + 1) (hh : ∀ k, k < offs.size → b + k ∈ sp ∨ offs[k]? = some dflt) (hx : ∀ k ∈ sp, ¬ x = nI k) (ht : (pc : Int) + dflt = (tgt : Int)) (k : bs_V Z X rm tgt lo rest nc ns nx sh mu) : bs_V Z X rm pc lo (.int x :: rest) nc ns nx sh mu := by
  by_cases ho : x.toInt < lw ∨ hi < x.toInt
  · exact bs_tableOut d ho ht k
  · have h1 : ¬ x.toInt < lw := fun z => ho (Or.inl z)
    have h2 : ¬ hi < x.toInt := fun z => ho (Or.inr z)
    have e : x = nI (b + (x.toInt - lw).toNat) := by
      apply Int32.toInt_inj.mp
      have h3 := Int32.toInt_lt x
      rw [nI_toInt (by omega)]
      omega
    rcases hh (x.toInt - lw).toNat (by omega) with h | h
    · exact absurd e (hx _ h)
    · exact bs_tableIn d h1 h2 h ht k
theorem fg_getQ {ix ci k a : Nat} (d : decode X.2.1 pc = .ok (.getfield ix, 3)) (w : bs_gr X.1.cls ix ci k) (hs : (sh a).1 = ci) (kk : bs_V Z X rm (pc + 3) lo (va_rf (bs_rv (mu a k)) :: rest) nc ns nx sh mu) : bs_V Z X rm pc lo (.ref a :: rest) nc ns nx sh mu := bs_getQ d w hs kk
end FGW
