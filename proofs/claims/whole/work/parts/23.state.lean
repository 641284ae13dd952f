/-! THE FIGURES of a state (own): count fc, figures FG 0 .. fc - 1; which number names one -/
def g_at (fc : Nat) (a : Int32) : Option Nat := if ¬ a < 0 ∧ a < nI fc then some a.toNatClampNeg else none
theorem g_at_y {fc j : Nat} (h : j < fc) (hf : fc < 2 ^ 31) : g_at fc (nI j) = some j := by
  unfold g_at
  rw [if_pos ⟨nI_pos (by omega), (nI_ltI (by omega) hf).mpr h⟩, nI_clamp (by omega)]
theorem g_at_n {fc : Nat} {a : Int32} (h : a < 0 ∨ nI fc ≤ a) : g_at fc a = none := by
  refine if_neg fun z => h.elim z.1 fun w => ?_
  exact absurd (Int32.le_iff_toInt_le.mp w) (Int.not_le.mpr (Int32.lt_iff_toInt_lt.mp z.2))
theorem g_at_c (fc : Nat) (hf : fc < 2 ^ 31) (a : Int32) : (a < 0 ∨ nI fc ≤ a) ∨ ∃ j, j < fc ∧ a = nI j := by
  rcases pk_ix a hf with h | h | h
  · exact Or.inl (Or.inl h)
  · exact Or.inl (Or.inr h)
  · exact Or.inr h
/-- a number that is or isn't below a count: 1 or 0 -/
def g_hs (n : Nat) (a : Int32) : Nat := g_if (¬ a < 0 ∧ ¬ nI n ≤ a)
theorem g_hs_y {n j : Nat} (h : j < n) (hn : n < 2 ^ 31) : g_hs n (nI j) = 1 := g_if1 ⟨nI_pos (by omega), nI_ge h hn⟩
theorem g_hs_n {n : Nat} {a : Int32} (h : a < 0 ∨ nI n ≤ a) : g_hs n a = 0 := g_if0 fun z => h.elim z.1 z.2
def cFG (x fc : Nat) (FG : Nat → bs_G) (mu : bs_Mm) : Prop := fc ≤ 12 ∧ bs_iv (mu x 13) = nI fc ∧ ∀ k, k < fc → g_ok (FG k) ∧ cFv (x + 63 + 7 * k) (FG k) mu
def mFG (m fc : Nat) (FG : Nat → bs_G) (mu : bs_Mm) : Prop := fc ≤ 12 ∧ bs_iv (mu m 20) = nI fc ∧ ∀ k, k < fc → g_ok (FG k) ∧ mFv m k (FG k) mu
set_option maxRecDepth 10000 in
theorem c_fS {x : Nat} {sh : bs_Sh} {mu : bs_Mm} (H : bs_St (bs_tS x) x sh mu) (k : Nat) (hk : k < 12) : cFs (x + 63 + 7 * k) sh mu := by
  match k, hk with
  | 0, _ =>
    refine ⟨H.s 63 rfl rfl rfl, fun j hj => ?_, fun j hj => ?_⟩
    · match j, hj with
      | 0, _ => exact H.r 63 0 rfl rfl rfl
      | 1, _ => exact H.r 63 1 rfl rfl rfl
      | 2, _ => exact H.r 63 2 rfl rfl rfl
      | 3, _ => exact H.r 63 3 rfl rfl rfl
      | 4, _ => exact H.r 63 4 rfl rfl rfl
      | 5, _ => exact H.r 63 5 rfl rfl rfl
    · match j, hj with
      | 0, _ => exact H.ss 64 rfl rfl
      | 1, _ => exact H.ss 65 rfl rfl
      | 2, _ => exact H.ss 66 rfl rfl
      | 3, _ => exact H.ss 67 rfl rfl
      | 4, _ => exact H.ss 68 rfl rfl
      | 5, _ => exact H.ss 69 rfl rfl
  | 1, _ =>
    refine ⟨H.s 70 rfl rfl rfl, fun j hj => ?_, fun j hj => ?_⟩
    · match j, hj with
      | 0, _ => exact H.r 70 0 rfl rfl rfl
      | 1, _ => exact H.r 70 1 rfl rfl rfl
      | 2, _ => exact H.r 70 2 rfl rfl rfl
      | 3, _ => exact H.r 70 3 rfl rfl rfl
      | 4, _ => exact H.r 70 4 rfl rfl rfl
      | 5, _ => exact H.r 70 5 rfl rfl rfl
    · match j, hj with
      | 0, _ => exact H.ss 71 rfl rfl
      | 1, _ => exact H.ss 72 rfl rfl
      | 2, _ => exact H.ss 73 rfl rfl
      | 3, _ => exact H.ss 74 rfl rfl
      | 4, _ => exact H.ss 75 rfl rfl
      | 5, _ => exact H.ss 76 rfl rfl
  | 2, _ =>
    refine ⟨H.s 77 rfl rfl rfl, fun j hj => ?_, fun j hj => ?_⟩
    · match j, hj with
      | 0, _ => exact H.r 77 0 rfl rfl rfl
      | 1, _ => exact H.r 77 1 rfl rfl rfl
      | 2, _ => exact H.r 77 2 rfl rfl rfl
      | 3, _ => exact H.r 77 3 rfl rfl rfl
      | 4, _ => exact H.r 77 4 rfl rfl rfl
      | 5, _ => exact H.r 77 5 rfl rfl rfl
    · match j, hj with
      | 0, _ => exact H.ss 78 rfl rfl
      | 1, _ => exact H.ss 79 rfl rfl
      | 2, _ => exact H.ss 80 rfl rfl
      | 3, _ => exact H.ss 81 rfl rfl
      | 4, _ => exact H.ss 82 rfl rfl
      | 5, _ => exact H.ss 83 rfl rfl
  | 3, _ =>
    refine ⟨H.s 84 rfl rfl rfl, fun j hj => ?_, fun j hj => ?_⟩
    · match j, hj with
      | 0, _ => exact H.r 84 0 rfl rfl rfl
      | 1, _ => exact H.r 84 1 rfl rfl rfl
      | 2, _ => exact H.r 84 2 rfl rfl rfl
      | 3, _ => exact H.r 84 3 rfl rfl rfl
      | 4, _ => exact H.r 84 4 rfl rfl rfl
      | 5, _ => exact H.r 84 5 rfl rfl rfl
    · match j, hj with
      | 0, _ => exact H.ss 85 rfl rfl
      | 1, _ => exact H.ss 86 rfl rfl
      | 2, _ => exact H.ss 87 rfl rfl
      | 3, _ => exact H.ss 88 rfl rfl
      | 4, _ => exact H.ss 89 rfl rfl
      | 5, _ => exact H.ss 90 rfl rfl
  | 4, _ =>
    refine ⟨H.s 91 rfl rfl rfl, fun j hj => ?_, fun j hj => ?_⟩
    · match j, hj with
      | 0, _ => exact H.r 91 0 rfl rfl rfl
      | 1, _ => exact H.r 91 1 rfl rfl rfl
      | 2, _ => exact H.r 91 2 rfl rfl rfl
      | 3, _ => exact H.r 91 3 rfl rfl rfl
      | 4, _ => exact H.r 91 4 rfl rfl rfl
      | 5, _ => exact H.r 91 5 rfl rfl rfl
    · match j, hj with
      | 0, _ => exact H.ss 92 rfl rfl
      | 1, _ => exact H.ss 93 rfl rfl
      | 2, _ => exact H.ss 94 rfl rfl
      | 3, _ => exact H.ss 95 rfl rfl
      | 4, _ => exact H.ss 96 rfl rfl
      | 5, _ => exact H.ss 97 rfl rfl
  | 5, _ =>
    refine ⟨H.s 98 rfl rfl rfl, fun j hj => ?_, fun j hj => ?_⟩
    · match j, hj with
      | 0, _ => exact H.r 98 0 rfl rfl rfl
      | 1, _ => exact H.r 98 1 rfl rfl rfl
      | 2, _ => exact H.r 98 2 rfl rfl rfl
      | 3, _ => exact H.r 98 3 rfl rfl rfl
      | 4, _ => exact H.r 98 4 rfl rfl rfl
      | 5, _ => exact H.r 98 5 rfl rfl rfl
    · match j, hj with
      | 0, _ => exact H.ss 99 rfl rfl
      | 1, _ => exact H.ss 100 rfl rfl
      | 2, _ => exact H.ss 101 rfl rfl
      | 3, _ => exact H.ss 102 rfl rfl
      | 4, _ => exact H.ss 103 rfl rfl
      | 5, _ => exact H.ss 104 rfl rfl
  | 6, _ =>
    refine ⟨H.s 105 rfl rfl rfl, fun j hj => ?_, fun j hj => ?_⟩
    · match j, hj with
      | 0, _ => exact H.r 105 0 rfl rfl rfl
      | 1, _ => exact H.r 105 1 rfl rfl rfl
      | 2, _ => exact H.r 105 2 rfl rfl rfl
      | 3, _ => exact H.r 105 3 rfl rfl rfl
      | 4, _ => exact H.r 105 4 rfl rfl rfl
      | 5, _ => exact H.r 105 5 rfl rfl rfl
    · match j, hj with
      | 0, _ => exact H.ss 106 rfl rfl
      | 1, _ => exact H.ss 107 rfl rfl
      | 2, _ => exact H.ss 108 rfl rfl
      | 3, _ => exact H.ss 109 rfl rfl
      | 4, _ => exact H.ss 110 rfl rfl
      | 5, _ => exact H.ss 111 rfl rfl
  | 7, _ =>
    refine ⟨H.s 112 rfl rfl rfl, fun j hj => ?_, fun j hj => ?_⟩
    · match j, hj with
      | 0, _ => exact H.r 112 0 rfl rfl rfl
      | 1, _ => exact H.r 112 1 rfl rfl rfl
      | 2, _ => exact H.r 112 2 rfl rfl rfl
      | 3, _ => exact H.r 112 3 rfl rfl rfl
      | 4, _ => exact H.r 112 4 rfl rfl rfl
      | 5, _ => exact H.r 112 5 rfl rfl rfl
    · match j, hj with
      | 0, _ => exact H.ss 113 rfl rfl
      | 1, _ => exact H.ss 114 rfl rfl
      | 2, _ => exact H.ss 115 rfl rfl
      | 3, _ => exact H.ss 116 rfl rfl
      | 4, _ => exact H.ss 117 rfl rfl
      | 5, _ => exact H.ss 118 rfl rfl
  | 8, _ =>
    refine ⟨H.s 119 rfl rfl rfl, fun j hj => ?_, fun j hj => ?_⟩
    · match j, hj with
      | 0, _ => exact H.r 119 0 rfl rfl rfl
      | 1, _ => exact H.r 119 1 rfl rfl rfl
      | 2, _ => exact H.r 119 2 rfl rfl rfl
      | 3, _ => exact H.r 119 3 rfl rfl rfl
      | 4, _ => exact H.r 119 4 rfl rfl rfl
      | 5, _ => exact H.r 119 5 rfl rfl rfl
    · match j, hj with
      | 0, _ => exact H.ss 120 rfl rfl
      | 1, _ => exact H.ss 121 rfl rfl
      | 2, _ => exact H.ss 122 rfl rfl
      | 3, _ => exact H.ss 123 rfl rfl
      | 4, _ => exact H.ss 124 rfl rfl
      | 5, _ => exact H.ss 125 rfl rfl
  | 9, _ =>
    refine ⟨H.s 126 rfl rfl rfl, fun j hj => ?_, fun j hj => ?_⟩
    · match j, hj with
      | 0, _ => exact H.r 126 0 rfl rfl rfl
      | 1, _ => exact H.r 126 1 rfl rfl rfl
      | 2, _ => exact H.r 126 2 rfl rfl rfl
      | 3, _ => exact H.r 126 3 rfl rfl rfl
      | 4, _ => exact H.r 126 4 rfl rfl rfl
      | 5, _ => exact H.r 126 5 rfl rfl rfl
    · match j, hj with
      | 0, _ => exact H.ss 127 rfl rfl
      | 1, _ => exact H.ss 128 rfl rfl
      | 2, _ => exact H.ss 129 rfl rfl
      | 3, _ => exact H.ss 130 rfl rfl
      | 4, _ => exact H.ss 131 rfl rfl
      | 5, _ => exact H.ss 132 rfl rfl
  | 10, _ =>
    refine ⟨H.s 133 rfl rfl rfl, fun j hj => ?_, fun j hj => ?_⟩
    · match j, hj with
      | 0, _ => exact H.r 133 0 rfl rfl rfl
      | 1, _ => exact H.r 133 1 rfl rfl rfl
      | 2, _ => exact H.r 133 2 rfl rfl rfl
      | 3, _ => exact H.r 133 3 rfl rfl rfl
      | 4, _ => exact H.r 133 4 rfl rfl rfl
      | 5, _ => exact H.r 133 5 rfl rfl rfl
    · match j, hj with
      | 0, _ => exact H.ss 134 rfl rfl
      | 1, _ => exact H.ss 135 rfl rfl
      | 2, _ => exact H.ss 136 rfl rfl
      | 3, _ => exact H.ss 137 rfl rfl
      | 4, _ => exact H.ss 138 rfl rfl
      | 5, _ => exact H.ss 139 rfl rfl
  | 11, _ =>
    refine ⟨H.s 140 rfl rfl rfl, fun j hj => ?_, fun j hj => ?_⟩
    · match j, hj with
      | 0, _ => exact H.r 140 0 rfl rfl rfl
      | 1, _ => exact H.r 140 1 rfl rfl rfl
      | 2, _ => exact H.r 140 2 rfl rfl rfl
      | 3, _ => exact H.r 140 3 rfl rfl rfl
      | 4, _ => exact H.r 140 4 rfl rfl rfl
      | 5, _ => exact H.r 140 5 rfl rfl rfl
    · match j, hj with
      | 0, _ => exact H.ss 141 rfl rfl
      | 1, _ => exact H.ss 142 rfl rfl
      | 2, _ => exact H.ss 143 rfl rfl
      | 3, _ => exact H.ss 144 rfl rfl
      | 4, _ => exact H.ss 145 rfl rfl
      | 5, _ => exact H.ss 146 rfl rfl
set_option maxRecDepth 10000 in
theorem c_fR {x : Nat} {sh : bs_Sh} {mu : bs_Mm} (H : bs_St (bs_tS x) x sh mu) (k : Nat) (hk : k < 12) : bs_rv (mu (x + 7) k) = some (x + 63 + 7 * k) := by
  match k, hk with
  | 0, _ => exact H.r 7 0 rfl rfl rfl
  | 1, _ => exact H.r 7 1 rfl rfl rfl
  | 2, _ => exact H.r 7 2 rfl rfl rfl
  | 3, _ => exact H.r 7 3 rfl rfl rfl
  | 4, _ => exact H.r 7 4 rfl rfl rfl
  | 5, _ => exact H.r 7 5 rfl rfl rfl
  | 6, _ => exact H.r 7 6 rfl rfl rfl
  | 7, _ => exact H.r 7 7 rfl rfl rfl
  | 8, _ => exact H.r 7 8 rfl rfl rfl
  | 9, _ => exact H.r 7 9 rfl rfl rfl
  | 10, _ => exact H.r 7 10 rfl rfl rfl
  | 11, _ => exact H.r 7 11 rfl rfl rfl
set_option maxHeartbeats 4000000 in
theorem c_figN {x nx fc : Nat} {FG : Nat → bs_G} {sh : bs_Sh} {mu : bs_Mm} (H : bs_St (bs_tS x) x sh mu) (hF : cFG x fc FG mu) {a : Int32} (ha : a < 0 ∨ nI fc ≤ a) : bs_C mX11_figureAt (bs_rm 0 0 0) [.ref x, .int a] nx sh mu (bs_no nx sh mu (.null)) := by
  refine bs_ct (by decide +kernel) (Nat.le_of_ble_eq_true rfl) ?_
  refine bs_iload_n dX11_figureAt_0 rfl ?_
  refine bs_if_lt (tgt := 12) dX11_figureAt_1 (by decide) (fun c1 => ?_) (fun c1 => ?_)
  · refine bs_null dX11_figureAt_12 ?_
    refine bs_goto (tgt := 22) dX11_figureAt_13 (by decide) ?_
    exact bs_aret dX11_figureAt_22 rfl (Or.inl ⟨_, rfl⟩) (Or.inl rfl) (by decide) (by decide) ⟨rfl, rfl, rfl, rfl⟩
  · refine bs_iload_n dX11_figureAt_4 rfl ?_
    refine bs_aload_n dX11_figureAt_5 rfl ?_
    refine bs_getN (v := fc) dX11_figureAt_6 fX11_131 (H.s 0 rfl rfl rfl) (hF.2.1) ?_
    refine bs_icmp_lt (tgt := 16) dX11_figureAt_9 (by decide) (fun c9 => ?_) (fun c9 => ?_)
    · exact absurd ha (fun z => z.elim c1 (fun w => absurd (Int32.le_iff_toInt_le.mp w) (Int.not_le.mpr (Int32.lt_iff_toInt_lt.mp c9))))
    · refine bs_null dX11_figureAt_12 ?_
      refine bs_goto (tgt := 22) dX11_figureAt_13 (by decide) ?_
      exact bs_aret dX11_figureAt_22 rfl (Or.inl ⟨_, rfl⟩) (Or.inl rfl) (by decide) (by decide) ⟨rfl, rfl, rfl, rfl⟩
set_option maxHeartbeats 4000000 in
theorem c_figY {x nx fc : Nat} {FG : Nat → bs_G} {sh : bs_Sh} {mu : bs_Mm} (H : bs_St (bs_tS x) x sh mu) (hF : cFG x fc FG mu) {j : Nat} (hj : j < fc) : bs_C mX11_figureAt (bs_rm 0 0 0) [.ref x, .int (nI j)] nx sh mu (bs_no nx sh mu (.ref (x + 63 + 7 * j))) := by
  have q0 := hF.1
  refine bs_ct (by decide +kernel) (Nat.le_of_ble_eq_true rfl) ?_
  refine bs_iload_n dX11_figureAt_0 rfl ?_
  refine bs_if_ltN (tgt := 12) dX11_figureAt_1 (by decide) (by have q0 := hj; omega) (fun c1 => ?_) (fun c1 => ?_)
  · omega
  · refine bs_iload_n dX11_figureAt_4 rfl ?_
    refine bs_aload_n dX11_figureAt_5 rfl ?_
    refine bs_getN (v := fc) dX11_figureAt_6 fX11_131 (H.s 0 rfl rfl rfl) (hF.2.1) ?_
    refine bs_icmp_ltN (tgt := 16) dX11_figureAt_9 (by decide) (by have q0 := hj; omega) (by have q0 := hF.1; omega) (fun c9 => ?_) (fun c9 => ?_)
    · refine bs_aload_n dX11_figureAt_16 rfl ?_
      refine bs_getR (b := (x + 7)) dX11_figureAt_17 fX11_25 (H.s 0 rfl rfl rfl) (H.r 0 2 rfl rfl rfl) ?_
      refine bs_iload_n dX11_figureAt_20 rfl ?_
      refine bs_aaldR (n := 12) (j := j) dX11_figureAt_21 (H.ss 7 rfl rfl) (Or.inl rfl) (bs_ix_n (by have q0 := hj; omega) (by decide)) (c_fR H j (by omega)) ?_
      exact bs_aret dX11_figureAt_22 rfl (Or.inl ⟨_, rfl⟩) (Or.inr ⟨_, rfl⟩) (by decide) (by decide) ⟨rfl, rfl, rfl, rfl⟩
    · omega
set_option maxHeartbeats 4000000 in
theorem f_hasPoint {f nx : Nat} {sh : bs_Sh} {mu : bs_Mm} {G : bs_G} (hS : cFs f sh mu) (hV : cFv f G mu) (hG : g_ok G) (a : Int32) : bs_C mX1_hasPoint (bs_rm 0 0 0) [.ref f, .int a] nx sh mu (bs_no nx sh mu (.int (nI (g_hs (g_np G) a)))) := by
  refine bs_ct (by decide +kernel) (Nat.le_of_ble_eq_true rfl) ?_
  refine bs_iload_n dX1_hasPoint_0 rfl ?_
  refine bs_if_lt (tgt := 16) dX1_hasPoint_1 (by decide) (fun c1 => ?_) (fun c1 => ?_)
  · refine bs_iconst (v := nI 0) dX1_hasPoint_16 (by decide) ?_
    exact bs_zret dX1_hasPoint_17 rfl (by decide) (by decide) (by decide) ⟨by rw [g_hs_n (Or.inl c1)], rfl, rfl, rfl⟩
  · refine bs_iload_n dX1_hasPoint_4 rfl ?_
    refine bs_aload_n dX1_hasPoint_5 rfl ?_
    refine bs_getN (v := (g_np G)) dX1_hasPoint_6 fX1_43 (hS.1) (hV.2.2.1) ?_
    refine bs_icmp_ge (tgt := 16) dX1_hasPoint_9 (by decide) (fun c9 => ?_) (fun c9 => ?_)
    · refine bs_iconst (v := nI 0) dX1_hasPoint_16 (by decide) ?_
      exact bs_zret dX1_hasPoint_17 rfl (by decide) (by decide) (by decide) ⟨by rw [g_hs_n (Or.inr c9)], rfl, rfl, rfl⟩
    · refine bs_iconst (v := nI 1) dX1_hasPoint_12 (by decide) ?_
      refine bs_goto (tgt := 17) dX1_hasPoint_13 (by decide) ?_
      exact bs_zret dX1_hasPoint_17 rfl (by decide) (by decide) (by decide) ⟨by rw [g_hs, g_if1 ⟨c1, c9⟩], rfl, rfl, rfl⟩
set_option maxHeartbeats 4000000 in
theorem f_hasBubble {f nx : Nat} {sh : bs_Sh} {mu : bs_Mm} {G : bs_G} (hS : cFs f sh mu) (hV : cFv f G mu) (hG : g_ok G) (a : Int32) : bs_C mX1_hasBubble (bs_rm 0 0 0) [.ref f, .int a] nx sh mu (bs_no nx sh mu (.int (nI (g_hs (g_nu G) a)))) := by
  refine bs_ct (by decide +kernel) (Nat.le_of_ble_eq_true rfl) ?_
  refine bs_iload_n dX1_hasBubble_0 rfl ?_
  refine bs_if_lt (tgt := 16) dX1_hasBubble_1 (by decide) (fun c1 => ?_) (fun c1 => ?_)
  · refine bs_iconst (v := nI 0) dX1_hasBubble_16 (by decide) ?_
    exact bs_zret dX1_hasBubble_17 rfl (by decide) (by decide) (by decide) ⟨by rw [g_hs_n (Or.inl c1)], rfl, rfl, rfl⟩
  · refine bs_iload_n dX1_hasBubble_4 rfl ?_
    refine bs_aload_n dX1_hasBubble_5 rfl ?_
    refine bs_getN (v := (g_nu G)) dX1_hasBubble_6 fX1_40 (hS.1) (hV.2.1) ?_
    refine bs_icmp_ge (tgt := 16) dX1_hasBubble_9 (by decide) (fun c9 => ?_) (fun c9 => ?_)
    · refine bs_iconst (v := nI 0) dX1_hasBubble_16 (by decide) ?_
      exact bs_zret dX1_hasBubble_17 rfl (by decide) (by decide) (by decide) ⟨by rw [g_hs_n (Or.inr c9)], rfl, rfl, rfl⟩
    · refine bs_iconst (v := nI 1) dX1_hasBubble_12 (by decide) ?_
      refine bs_goto (tgt := 17) dX1_hasBubble_13 (by decide) ?_
      exact bs_zret dX1_hasBubble_17 rfl (by decide) (by decide) (by decide) ⟨by rw [g_hs, g_if1 ⟨c1, c9⟩], rfl, rfl, rfl⟩
set_option maxHeartbeats 4000000 in
theorem f_hasBalloon {f nx : Nat} {sh : bs_Sh} {mu : bs_Mm} {G : bs_G} (hS : cFs f sh mu) (hV : cFv f G mu) (hG : g_ok G) (a : Int32) : bs_C mX1_hasBalloon (bs_rm 0 0 0) [.ref f, .int a] nx sh mu (bs_no nx sh mu (.int (nI (g_hs (g_nb G) a)))) := by
  refine bs_ct (by decide +kernel) (Nat.le_of_ble_eq_true rfl) ?_
  refine bs_iload_n dX1_hasBalloon_0 rfl ?_
  refine bs_if_lt (tgt := 16) dX1_hasBalloon_1 (by decide) (fun c1 => ?_) (fun c1 => ?_)
  · refine bs_iconst (v := nI 0) dX1_hasBalloon_16 (by decide) ?_
    exact bs_zret dX1_hasBalloon_17 rfl (by decide) (by decide) (by decide) ⟨by rw [g_hs_n (Or.inl c1)], rfl, rfl, rfl⟩
  · refine bs_iload_n dX1_hasBalloon_4 rfl ?_
    refine bs_aload_n dX1_hasBalloon_5 rfl ?_
    refine bs_getN (v := (g_nb G)) dX1_hasBalloon_6 fX1_36 (hS.1) (hV.1) ?_
    refine bs_icmp_ge (tgt := 16) dX1_hasBalloon_9 (by decide) (fun c9 => ?_) (fun c9 => ?_)
    · refine bs_iconst (v := nI 0) dX1_hasBalloon_16 (by decide) ?_
      exact bs_zret dX1_hasBalloon_17 rfl (by decide) (by decide) (by decide) ⟨by rw [g_hs_n (Or.inr c9)], rfl, rfl, rfl⟩
    · refine bs_iconst (v := nI 1) dX1_hasBalloon_12 (by decide) ?_
      refine bs_goto (tgt := 17) dX1_hasBalloon_13 (by decide) ?_
      exact bs_zret dX1_hasBalloon_17 rfl (by decide) (by decide) (by decide) ⟨by rw [g_hs, g_if1 ⟨c1, c9⟩], rfl, rfl, rfl⟩
