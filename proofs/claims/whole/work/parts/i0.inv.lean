/-! THE INVARIANT (own): what holds of both sides between two calls -/
abbrev li_D : Type := bs_Ta × bs_So × (Nat × (Nat → bs_G)) × (Nat × (Nat → bs_U)) × (Nat × (Nat → Nat) × (Nat → Nat) × (Nat → Nat)) × ((Nat → Nat) × Int32 × Int32) × (Nat × (Nat → Nat → Int32))
def lC (x : Nat) : li_D → bs_Mm → Prop
  | (T, S, (fc, FG), (rc, UR), (qn, QT, QJ, QP), (ST, pu, pb), (rn, V)), mu => cT x T.1 T.2 mu ∧ cSo x S mu ∧ cFG x fc FG mu ∧ cUR x rc UR mu ∧ cMK x fc S.1 FG S.2.1 S.2.2.1 mu ∧ cMT x fc FG mu ∧ cAG x fc rc FG UR S mu ∧ cQU x qn QT QJ QP mu ∧ cSK x ST pu pb mu ∧ cGU x rn V mu
def lM (m : Nat) : li_D → bs_Mm → Prop
  | (T, S, (fc, FG), (rc, UR), (qn, QT, QJ, QP), (ST, pu, pb), (rn, V)), mu => mT m T.1 T.2 mu ∧ mSo m S mu ∧ mFG m fc FG mu ∧ mUR m rc UR mu ∧ mQU m qn QT QJ QP mu ∧ mSK m ST pu pb mu ∧ mGU m rn V mu
def lD : li_D → Prop
  | (_, S, (fc, FG), _, (qn, QT, QJ, QP), _, _) => so_ok S ∧ (∀ k, k < fc → g_iv (FG k) ∧ ∀ b, b < g_nb (FG k) → g_so (FG k) b < S.1) ∧ ∀ i, i < qn → QT i ≤ 9999 ∧ QJ i < fc ∧ QP i ≤ 999
theorem cSo_of {x : Nat} {S : bs_So} {mu mu' : bs_Mm} (h : cSo x S mu) (e1 : mu' (x + 1) = mu (x + 1)) (e2 : mu' (x + 2) = mu (x + 2)) (e3 : mu' (x + 3) = mu (x + 3)) (e4 : mu' (x + 4) = mu (x + 4)) : cSo x S mu' := by
  unfold cSo bs_rw
  rw [e1, e2, e3, e4]
  exact h
theorem cFG_ofI {x fc : Nat} {FG : Nat → bs_G} {mu mu' : bs_Mm} (h : cFG x fc FG mu) (e0 : mu' x = mu x) (e : ∀ a, x + 63 ≤ a → a ≤ x + 146 → mu' a = mu a) : cFG x fc FG mu' := ⟨h.1, by rw [e0]; exact h.2.1, fun k hk => ⟨(h.2.2 k hk).1, cFv_of (h.2.2 k hk).2 fun i hi => e _ (by omega) (by have := h.1; omega)⟩⟩
theorem cUR_ofI {x rc : Nat} {UR : Nat → bs_U} {mu mu' : bs_Mm} (h : cUR x rc UR mu) (e0 : mu' x = mu x) (e : ∀ a, x + 147 ≤ a → a ≤ x + 158 → mu' a = mu a) : cUR x rc UR mu' := ⟨h.1, by rw [e0]; exact h.2.1, fun k hk => ⟨(h.2.2 k hk).1, cUv_of (h.2.2 k hk).2 (e _ (by omega) (by have := h.1; omega)) (e _ (by omega) (by have := h.1; omega))⟩⟩
theorem cMK_ofI {x fc sc : Nat} {FG : Nat → bs_G} {LN JN : Nat → Nat} {mu mu' : bs_Mm} (h : cMK x fc sc FG LN JN mu) (e3 : mu' (x + 43) = mu (x + 43)) (e4 : mu' (x + 44) = mu (x + 44)) : cMK x fc sc FG LN JN mu' := by
  unfold cMK cKn
  rw [e3, e4]
  exact h
theorem cQU_ofI {x n : Nat} {T J P : Nat → Nat} {mu mu' : bs_Mm} (h : cQU x n T J P mu) (e0 : mu' (x + 50) = mu (x + 50)) (e1 : mu' (x + 56) = mu (x + 56)) (e2 : mu' (x + 57) = mu (x + 57)) (e3 : mu' (x + 58) = mu (x + 58)) : cQU x n T J P mu' := by
  unfold cQU bs_rw
  rw [e0, e1, e2, e3]
  exact h
theorem cSK_ofI {x : Nat} {ST : Nat → Nat} {pu pb : Int32} {mu mu' : bs_Mm} (h : cSK x ST pu pb mu) (e0 : mu' (x + 50) = mu (x + 50)) (e1 : mu' (x + 51) = mu (x + 51)) : cSK x ST pu pb mu' := by
  unfold cSK
  rw [e0, e1]
  exact h
theorem cGU_ofI {x rn : Nat} {V : Nat → Nat → Int32} {mu mu' : bs_Mm} (h : cGU x rn V mu) (e0 : mu' (x + 50) = mu (x + 50)) (e : ∀ k, k < 4 → mu' (x + 52 + k) = mu (x + 52 + k)) : cGU x rn V mu' := ⟨h.1, by rw [e0]; exact h.2.1, fun i hi k hk => by rw [e k hk]; exact h.2.2 i hi k hk⟩
/-- nothing of the class changed but what nobody keeps (cells 7 .. 29, 32 .. 42, 48, 49, 59 .. 62) -/
theorem lC_of {x : Nat} {D : li_D} {mu mu' : bs_Mm} (h : lC x D mu) (e : ∀ a, x ≤ a → a ≤ x + 158 → (a ≤ x + 6 ∨ x + 30 ≤ a) → (a ≤ x + 31 ∨ x + 43 ≤ a) → (a ≤ x + 47 ∨ x + 50 ≤ a) → (a ≤ x + 58 ∨ x + 63 ≤ a) → mu' a = mu a) : lC x D mu' := by
  obtain ⟨T, S, ⟨fc, FG⟩, ⟨rc, UR⟩, ⟨qn, QT, QJ, QP⟩, ⟨ST, pu, pb⟩, ⟨rn, V⟩⟩ := D
  obtain ⟨h1, h2, h3, h4, h5, h6, h7, h8, h9, h10⟩ := h
  have f : ∀ k, k ≤ 158 → (k ≤ 6 ∨ 30 ≤ k) → (k ≤ 31 ∨ 43 ≤ k) → (k ≤ 47 ∨ 50 ≤ k) → (k ≤ 58 ∨ 63 ≤ k) → mu' (x + k) = mu (x + k) := fun k k1 k2 k3 k4 k5 => e _ (by omega) (by omega) (by omega) (by omega) (by omega) (by omega)
  have f0 : mu' x = mu x := f 0 (by decide) (by decide) (by decide) (by decide) (by decide)
  have g : ∀ a, x + 63 ≤ a → a ≤ x + 158 → mu' a = mu a := fun a a1 a2 => e a (by omega) (by omega) (by omega) (by omega) (by omega) (by omega)
  exact ⟨cT_of h1 (f 5 (by decide) (by decide) (by decide) (by decide) (by decide)) (f 6 (by decide) (by decide) (by decide) (by decide) (by decide)), cSo_of h2 (f 1 (by decide) (by decide) (by decide) (by decide) (by decide)) (f 2 (by decide) (by decide) (by decide) (by decide) (by decide)) (f 3 (by decide) (by decide) (by decide) (by decide) (by decide)) (f 4 (by decide) (by decide) (by decide) (by decide) (by decide)), cFG_ofI h3 f0 fun a a1 a2 => g a (by omega) (by omega), cUR_ofI h4 f0 fun a a1 a2 => g a (by omega) (by omega), cMK_ofI h5 (f 43 (by decide) (by decide) (by decide) (by decide) (by decide)) (f 44 (by decide) (by decide) (by decide) (by decide) (by decide)), cMT_of h6 (f 30 (by decide) (by decide) (by decide) (by decide) (by decide)) (f 31 (by decide) (by decide) (by decide) (by decide) (by decide)), cAG_of h7 (f 45 (by decide) (by decide) (by decide) (by decide) (by decide)) (f 46 (by decide) (by decide) (by decide) (by decide) (by decide)) (f 47 (by decide) (by decide) (by decide) (by decide) (by decide)), cQU_ofI h8 (f 50 (by decide) (by decide) (by decide) (by decide) (by decide)) (f 56 (by decide) (by decide) (by decide) (by decide) (by decide)) (f 57 (by decide) (by decide) (by decide) (by decide) (by decide)) (f 58 (by decide) (by decide) (by decide) (by decide) (by decide)), cSK_ofI h9 (f 50 (by decide) (by decide) (by decide) (by decide) (by decide)) (f 51 (by decide) (by decide) (by decide) (by decide) (by decide)), cGU_ofI h10 (f 50 (by decide) (by decide) (by decide) (by decide) (by decide)) fun k hk => e _ (by omega) (by omega) (by omega) (by omega) (by omega) (by omega)⟩
theorem mSo_ofI {m : Nat} {S : bs_So} {mu mu' : bs_Mm} (h : mSo m S mu) (e0 : mu' m 5 = mu m 5) (e1 : mu' (m + 1) = mu (m + 1)) (e2 : mu' (m + 2) = mu (m + 2)) (e3 : mu' (m + 3) = mu (m + 3)) : mSo m S mu' := by
  unfold mSo bs_rw
  rw [e0, e1, e2, e3]
  exact h
theorem mFG_ofI {m fc : Nat} {FG : Nat → bs_G} {mu mu' : bs_Mm} (h : mFG m fc FG mu) (e0 : mu' m 20 = mu m 20) (e : ∀ a, m + 6 ≤ a → a ≤ m + 14 → mu' a = mu a) : mFG m fc FG mu' := ⟨h.1, by rw [e0]; exact h.2.1, fun k hk => ⟨(h.2.2 k hk).1, mFv_ofR (h.2.2 k hk).2 fun c c1 c2 => e c c1 c2⟩⟩
theorem mUR_ofI {m rc : Nat} {UR : Nat → bs_U} {mu mu' : bs_Mm} (h : mUR m rc UR mu) (e0 : mu' m 31 = mu m 31) (e : ∀ a, m + 18 ≤ a → a ≤ m + 21 → mu' a = mu a) : mUR m rc UR mu' := ⟨h.1, by rw [e0]; exact h.2.1, fun k hk => ⟨(h.2.2 k hk).1, mUv_of (h.2.2 k hk).2 fun c c1 c2 => e c c1 c2⟩⟩
theorem mQU_ofI {m n : Nat} {T J P : Nat → Nat} {mu mu' : bs_Mm} (h : mQU m n T J P mu) (e0 : mu' m 45 = mu m 45) (e1 : mu' (m + 28) = mu (m + 28)) (e2 : mu' (m + 29) = mu (m + 29)) (e3 : mu' (m + 30) = mu (m + 30)) : mQU m n T J P mu' := by
  unfold mQU bs_rw
  rw [e0, e1, e2, e3]
  exact h
theorem mSK_ofI {m : Nat} {ST : Nat → Nat} {pu pb : Int32} {mu mu' : bs_Mm} (h : mSK m ST pu pb mu) (e7 : mu' m 47 = mu m 47) (e8 : mu' m 48 = mu m 48) (e1 : mu' (m + 4) = mu (m + 4)) : mSK m ST pu pb mu' := by
  unfold mSK
  rw [e7, e8, e1]
  exact h
theorem mGU_ofI {m rn : Nat} {V : Nat → Nat → Int32} {mu mu' : bs_Mm} (h : mGU m rn V mu) (e0 : mu' m 46 = mu m 46) (e1 : mu' (m + 31) = mu (m + 31)) : mGU m rn V mu' := by
  unfold mGU
  rw [e0, e1]
  exact h
/-- nothing of the model changed but what nobody keeps (fields but 5, 7, 20, 31, 45 .. 48; rows 15 .. 17, 22 .. 27, 32 ..) -/
theorem lM_of {m : Nat} {D : li_D} {mu mu' : bs_Mm} (h : lM m D mu) (e0 : ∀ k, (k = 5 ∨ k = 7 ∨ k = 20 ∨ k = 31 ∨ (45 ≤ k ∧ k ≤ 48)) → mu' m k = mu m k) (e : ∀ a, m < a → a ≤ m + 31 → (a ≤ m + 14 ∨ m + 18 ≤ a) → (a ≤ m + 21 ∨ m + 28 ≤ a) → mu' a = mu a) : lM m D mu' := by
  obtain ⟨T, S, ⟨fc, FG⟩, ⟨rc, UR⟩, ⟨qn, QT, QJ, QP⟩, ⟨ST, pu, pb⟩, ⟨rn, V⟩⟩ := D
  obtain ⟨h1, h2, h3, h4, h5, h6, h7⟩ := h
  exact ⟨mT_of h1 (e0 7 (by decide)) (e _ (by omega) (by omega) (by omega) (by omega)), mSo_ofI h2 (e0 5 (by decide)) (e _ (by omega) (by omega) (by omega) (by omega)) (e _ (by omega) (by omega) (by omega) (by omega)) (e _ (by omega) (by omega) (by omega) (by omega)), mFG_ofI h3 (e0 20 (by decide)) fun a a1 a2 => e a (by omega) (by omega) (by omega) (by omega), mUR_ofI h4 (e0 31 (by decide)) fun a a1 a2 => e a (by omega) (by omega) (by omega) (by omega), mQU_ofI h5 (e0 45 (by decide)) (e _ (by omega) (by omega) (by omega) (by omega)) (e _ (by omega) (by omega) (by omega) (by omega)) (e _ (by omega) (by omega) (by omega) (by omega)), mSK_ofI h6 (e0 47 (by decide)) (e0 48 (by decide)) (e _ (by omega) (by omega) (by omega) (by omega)), mGU_ofI h7 (e0 46 (by decide)) (e _ (by omega) (by omega) (by omega) (by omega))⟩
