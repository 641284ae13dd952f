/-! FUNCTIONS (own): more of the combinators -/
def fg_let {α β : Type} (a : α) (k : α → Option β) : Option β := k a
def fg_wc {β : Type} (mu : bs_Mm) (a0 a1 sp dp n : Nat) (k : bs_Mm → Option β) : Option β := k (bs_cp mu a0 a1 sp dp n)
def fg_wf {β : Type} (mu : bs_Mm) (a n : Nat) (v : Value) (k : bs_Mm → Option β) : Option β := k (bs_fi mu a n v)
theorem fg_letE {α β : Type} {a : α} {k : α → Option β} {r : Option β} (h : fg_let a k = r) : k a = r := h
theorem fg_oq0 {β : Type} {k0 : Option β} {k : Nat → Option β} {r : Option β} (h : fg_oq none k0 k = r) : k0 = r := h
theorem fg_oq1 {β : Type} {b : Nat} {k0 : Option β} {k : Nat → Option β} {r : Option β} (h : fg_oq (some b) k0 k = r) : k b = r := h
theorem fg_oqE {β : Type} {q : Option Nat} {k : Nat → Option β} {r : β} (h : fg_oq q none k = some r) : ∃ b, q = some b ∧ k b = some r := by
  cases q with
  | none => cases h
  | some b => exact ⟨b, rfl, h⟩
theorem fg_cr {d d' nL : Nat} (h1 : d + 1 ≤ d') (h2 : nL ≤ 22) : bs_cr (bs_rm d' 0 0) (bs_rm d 0 0) nL 0 0 := by
  refine ⟨⟨h1, ?_⟩, Nat.le_refl _, Nat.le_refl _⟩
  show 8 + (nL + 11) + 41 * d ≤ 41 * d'
  omega
section FGX
variable {Ph : bs_Po} {Z : bs_Z} {X : bs_M} {rm : Room} {pc : Nat} {lo : bs_L} {st rest : List Value} {nc ns nx : Nat} {sh : bs_Sh} {mu : bs_Mm} {R : Nat → Nat → Option Nat}
theorem fg_copy {ix a0 a1 n0 n1 sp dp n : Nat} {isp idp inn : Int32} {β : Type} {k : bs_Mm → Option β} {r : β} (d : decode X.2.1 pc = .ok (.invokestatic ix, 3)) (w : Cond.methodLink X.1.cls ix arraycopyName ∈ bs_al ∧ Cond.native arraycopyName ∈ bs_al ∧ Cond.static arraycopyName ∈ bs_al ∧ Cond.initialized "java/lang/System" ∈ bs_al) (hs0 : sh a0 = (14, n0)) (hs1 : sh a1 = (14, n1)) (hn : ∀ j, R a1 j = none) (e1 : isp = nI sp) (e2 : idp = nI dp) (e3 : inn = nI n) (h0 : sp + n ≤ n0) (h1 : dp + n ≤ n1) (hb : n0 < 2 ^ 31 ∧ n1 < 2 ^ 31)
    (hf : 1 ≤ rm.frames) (hlo : (rest.map fun v => v.category).sum + (nativeFrameWords "java/lang/System" "arraycopy" 5 + 11) ≤ rm.locals) (hR : fg_R R mu) (h : fg_wc mu a0 a1 sp dp n k = some r) (kk : ∀ mu1, fg_R R mu1 → k mu1 = some r → bs_V Z X rm (pc + 3) lo rest nc ns nx sh mu1) : bs_V Z X rm pc lo (.int inn :: .int idp :: .ref a1 :: .int isp :: .ref a0 :: rest) nc ns nx sh mu :=
  bs_copy d w hs0 hs1 e1 e2 e3 h0 h1 hb hf hlo (kk _ (hR.cp hn) h)
theorem fg_fill {ix a n : Nat} {v : Int32} {β : Type} {k : bs_Mm → Option β} {r : β} (d : decode X.2.1 pc = .ok (.invokestatic ix, 3)) (w : bs_cs X.1.cls ix mJ7_fill_53178 2) (hs : sh a = (14, n)) (hn : ∀ j, R a j = none) (hb : n < 2 ^ 31) (hw : (rest.map fun v => v.category).sum ≤ 8) (hr : bs_cr rm (bs_rm 0 0 0) mJ7_fill_53178.2.2.1 nc ns) (hR : fg_R R mu) (h : fg_wf mu a n (.int v) k = some r) (kk : ∀ mu1, fg_R R mu1 → k mu1 = some r → bs_V Z X rm (pc + 3) lo rest nc ns nx sh mu1) : bs_V Z X rm pc lo (.int v :: .ref a :: rest) nc ns nx sh mu :=
  bs_callS d w (s_fill a n v hs hb) rfl rfl hw hr fun v' nx' sh' mu' h2 => by
    obtain ⟨e1, e2, e3, e4⟩ := h2
    rw [e1, e2, e3, e4]
    exact kk _ (hR.fi hn) h
end FGX
theorem fg_n43 {R : Nat → Nat → Option Nat} {x : Nat} {sh : bs_Sh} (H : fg_S (bs_tS x) R x sh) (j : Nat) : R (x + 43) j = none := by
  refine H.n 43 j rfl rfl ?_
  show bs_rv (if j < 72 then Value.int (-2) else Value.null) = none
  split <;> rfl
theorem fg_iinc0 {Z : bs_Z} {X : bs_M} {rm : Room} {pc : Nat} {lo : bs_L} {st : List Value} {nc ns nx : Nat} {sh : bs_Sh} {mu : bs_Mm} {j : Nat} {n : Int} {x m : Int32} (d : decode X.2.1 pc = .ok (.iinc (j + 1) n, 3)) (hv : lo (j + 1) = some (.int x)) (hok : lo j = none) (hm : Int32.ofInt n = m) (k : bs_V Z X rm (pc + 3) (bs_st lo (j + 1) (.int (x + m))) st nc ns nx sh mu) : bs_V Z X rm pc lo st nc ns nx sh mu := by
  subst hm
  intro p l e s m args below meth c D dA A F hE H locs ls hP hS hl
  obtain ⟨q, hq⟩ := List.getElem?_of_mem (bs_li_in (hl.lt hv) hv)
  exact lv_iinc F.1 F.2.1 d hl.lv hq rfl (hl.lt hv) rfl (fun ls' h' => k p l e s m args below meth c D dA A F hE H locs ls' hP hS (hl.st0 hok h'))
