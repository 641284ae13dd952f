/-! RULES over numbers (own): all ints on the stack are 'nI n' -/
/-- a row of whole numbers -/
def bs_rw (mu : bs_Mm) (a n : Nat) (f : Nat → Nat) : Prop := ∀ j, j < n → bs_iv (mu a j) = nI (f j)
def bs_fn (f : Nat → Nat) (k v : Nat) : Nat → Nat := fun j => if j = k then v else f j
theorem bs_fn_s {f : Nat → Nat} {k v : Nat} : bs_fn f k v k = v := if_pos rfl
theorem bs_fn_n {f : Nat → Nat} {k v j : Nat} (h : j ≠ k) : bs_fn f k v j = f j := if_neg h
theorem bs_rw.up {mu : bs_Mm} {a n : Nat} {f : Nat → Nat} (h : bs_rw mu a n f) (k v : Nat) : bs_rw (bs_up mu a k (.int (nI v))) a n (bs_fn f k v) := by
  intro j hj
  by_cases hk : j = k
  · subst hk; rw [bs_up_eq, bs_fn_s]; rfl
  · rw [bs_up_j hk, bs_fn_n hk]; exact h j hj
theorem bs_rw.push {mu : bs_Mm} {a n : Nat} {f : Nat → Nat} (h : bs_rw mu a n f) (v : Nat) : bs_rw (bs_up mu a n (.int (nI v))) a (n + 1) (bs_fn f n v) := by
  intro j hj
  by_cases hk : j = n
  · subst hk; rw [bs_up_eq, bs_fn_s]; rfl
  · rw [bs_up_j hk, bs_fn_n hk]; exact h j (by omega)
theorem bs_rw.of {mu mu' : bs_Mm} {a n : Nat} {f : Nat → Nat} (h : bs_rw mu a n f) (e : mu' a = mu a) : bs_rw mu' a n f := fun j hj => by rw [e]; exact h j hj
theorem bs_rw.less {mu : bs_Mm} {a n m : Nat} {f : Nat → Nat} (h : bs_rw mu a n f) (e : m ≤ n) : bs_rw mu a m f := fun j hj => h j (by omega)
theorem fa_and (a b : Nat) : nI a &&& nI b = nI (a &&& b) := by
  apply Int32.toBitVec_inj.1
  show BitVec.ofNat 32 a &&& BitVec.ofNat 32 b = BitVec.ofNat 32 (a &&& b)
  apply BitVec.eq_of_getLsbD_eq
  intro i hi
  simp [hi]
theorem fa_or (a b : Nat) : nI a ||| nI b = nI (a ||| b) := by
  apply Int32.toBitVec_inj.1
  show BitVec.ofNat 32 a ||| BitVec.ofNat 32 b = BitVec.ofNat 32 (a ||| b)
  apply BitVec.eq_of_getLsbD_eq
  intro i hi
  simp [hi]
theorem bs_xorI (a b : Nat) : nI a ^^^ nI b = nI (a ^^^ b) := by
  apply Int32.toBitVec_inj.1
  show BitVec.ofNat 32 a ^^^ BitVec.ofNat 32 b = BitVec.ofNat 32 (a ^^^ b)
  apply BitVec.eq_of_getLsbD_eq
  intro i hi
  simp [hi]
theorem bs_s31 {k : Nat} (h : k < 32) : nI k &&& 31 = nI k := by
  have e := fa_and k 31
  rw [show (31 : Int32) = nI 31 from rfl, e]
  have := Nat.and_two_pow_sub_one_eq_mod k 5
  rw [show 2 ^ 5 - 1 = 31 from rfl] at this
  rw [this, Nat.mod_eq_of_lt (by omega)]
theorem bs_smod {k : Nat} (h : k < 32) : ((nI k).toBitVec.smod 32).toNat = k := by
  have : ∀ k, k < 32 → ((nI k).toBitVec.smod 32).toNat = k := by decide +kernel
  exact this k h
theorem bs_shl1 {k : Nat} (h : k < 31) : nI 1 <<< (nI k &&& 31) = nI (2 ^ k) := by
  have h2 : 2 ^ k < 2 ^ 31 := Nat.pow_lt_pow_right (by decide) h
  rw [bs_s31 (by omega), pk_shlN _ k (bs_smod (by omega)) (by omega), Nat.one_mul]
theorem bs_shrI {n k : Nat} (hn : n < 2 ^ 31) (h : k < 32) : nI n >>> (nI k &&& 31) = nI (n / 2 ^ k) := by
  rw [bs_s31 h, pk_shrN hn _ k (bs_smod h)]
section BSN
variable {Ph : bs_Po} {Z : bs_Z} {X : bs_M} {rm : Room} {pc : Nat} {lo : bs_L} {st rest : List Value} {nc ns nx : Nat} {sh : bs_Sh} {mu : bs_Mm}
theorem bs_iaddN {a b : Nat} (d : decode X.2.1 pc = .ok (.iadd, 1)) (k : bs_V Z X rm (pc + 1) lo (.int (nI (a + b)) :: rest) nc ns nx sh mu) : bs_V Z X rm pc lo (.int (nI b) :: .int (nI a) :: rest) nc ns nx sh mu := bs_iadd d (bs_topq (nI_add a b) k)
theorem bs_isubN {a b : Nat} (d : decode X.2.1 pc = .ok (.isub, 1)) (h : b ≤ a) (k : bs_V Z X rm (pc + 1) lo (.int (nI (a - b)) :: rest) nc ns nx sh mu) : bs_V Z X rm pc lo (.int (nI b) :: .int (nI a) :: rest) nc ns nx sh mu := bs_isub d (bs_topq (pk_sub h) k)
theorem bs_imulN {a b : Nat} (d : decode X.2.1 pc = .ok (.imul, 1)) (k : bs_V Z X rm (pc + 1) lo (.int (nI (a * b)) :: rest) nc ns nx sh mu) : bs_V Z X rm pc lo (.int (nI b) :: .int (nI a) :: rest) nc ns nx sh mu := bs_imul d (bs_topq (pk_mul a b) k)
theorem bs_iincN {i n a : Nat} (d : decode X.2.1 pc = .ok (.iinc i (n : Int), 3)) (hv : lo i = some (.int (nI a))) (hok : bs_ok lo i = true) (k : bs_V Z X rm (pc + 3) (bs_st lo i (.int (nI (a + n)))) st nc ns nx sh mu) : bs_V Z X rm pc lo st nc ns nx sh mu := by
  refine bs_iinc d hv hok ?_
  have e : nI a + Int32.ofInt (n : Int) = nI (a + n) := by rw [← nI_add]; rfl
  rw [e]
  exact k
theorem bs_getN {ix ci k a v : Nat} (d : decode X.2.1 pc = .ok (.getfield ix, 3)) (w : bs_gi X.1.cls ix ci k) (hs : (sh a).1 = ci) (h : bs_iv (mu a k) = nI v) (kk : bs_V Z X rm (pc + 3) lo (.int (nI v) :: rest) nc ns nx sh mu) : bs_V Z X rm pc lo (.ref a :: rest) nc ns nx sh mu := bs_getI d w hs (bs_topq h kk)
theorem bs_ialdN {a n j v : Nat} (d : decode X.2.1 pc = .ok (.iaload, 1)) (hs : sh a = (14, n)) (hj : j < n) (hn : n < 2 ^ 31) (h : bs_iv (mu a j) = nI v) (kk : bs_V Z X rm (pc + 1) lo (.int (nI v) :: rest) nc ns nx sh mu) : bs_V Z X rm pc lo (.int (nI j) :: .ref a :: rest) nc ns nx sh mu := bs_iald d hs (bs_ix_n hj hn) (bs_topq h kk)
theorem bs_iastN {a n j : Nat} {x : Int32} (d : decode X.2.1 pc = .ok (.iastore, 1)) (hs : sh a = (14, n)) (hj : j < n) (hn : n < 2 ^ 31) (kk : bs_V Z X rm (pc + 1) lo rest nc ns nx sh (bs_up mu a j (.int x))) : bs_V Z X rm pc lo (.int x :: .int (nI j) :: .ref a :: rest) nc ns nx sh mu := bs_iast d hs (bs_ix_n hj hn) kk
theorem bs_icmp_eqN {a b : Nat} {off : Int} {tgt : Nat} (d : decode X.2.1 pc = .ok (.if_icmp .eq off, 3)) (ht : (pc : Int) + off = (tgt : Int)) (ha : a < 2 ^ 31) (hb : b < 2 ^ 31) (kt : a = b → bs_V Z X rm tgt lo rest nc ns nx sh mu) (kf : a ≠ b → bs_V Z X rm (pc + 3) lo rest nc ns nx sh mu) : bs_V Z X rm pc lo (.int (nI b) :: .int (nI a) :: rest) nc ns nx sh mu := bs_icmp_eq d ht (fun h => kt ((nI_eq ha hb).mp h)) (fun h => kf (fun e => h ((nI_eq ha hb).mpr e)))
theorem bs_icmp_neN {a b : Nat} {off : Int} {tgt : Nat} (d : decode X.2.1 pc = .ok (.if_icmp .ne off, 3)) (ht : (pc : Int) + off = (tgt : Int)) (ha : a < 2 ^ 31) (hb : b < 2 ^ 31) (kt : a ≠ b → bs_V Z X rm tgt lo rest nc ns nx sh mu) (kf : a = b → bs_V Z X rm (pc + 3) lo rest nc ns nx sh mu) : bs_V Z X rm pc lo (.int (nI b) :: .int (nI a) :: rest) nc ns nx sh mu := bs_icmp_ne d ht (fun h => kt (fun e => h ((nI_eq ha hb).mpr e))) (fun h => kf ((nI_eq ha hb).mp h))
theorem bs_icmp_ltN {a b : Nat} {off : Int} {tgt : Nat} (d : decode X.2.1 pc = .ok (.if_icmp .lt off, 3)) (ht : (pc : Int) + off = (tgt : Int)) (ha : a < 2 ^ 31) (hb : b < 2 ^ 31) (kt : a < b → bs_V Z X rm tgt lo rest nc ns nx sh mu) (kf : b ≤ a → bs_V Z X rm (pc + 3) lo rest nc ns nx sh mu) : bs_V Z X rm pc lo (.int (nI b) :: .int (nI a) :: rest) nc ns nx sh mu := bs_icmp_lt d ht (fun h => kt ((nI_ltI ha hb).mp h)) (fun h => kf (Nat.not_lt.mp fun e => h ((nI_ltI ha hb).mpr e)))
theorem bs_icmp_geN {a b : Nat} {off : Int} {tgt : Nat} (d : decode X.2.1 pc = .ok (.if_icmp .ge off, 3)) (ht : (pc : Int) + off = (tgt : Int)) (ha : a < 2 ^ 31) (hb : b < 2 ^ 31) (kt : b ≤ a → bs_V Z X rm tgt lo rest nc ns nx sh mu) (kf : a < b → bs_V Z X rm (pc + 3) lo rest nc ns nx sh mu) : bs_V Z X rm pc lo (.int (nI b) :: .int (nI a) :: rest) nc ns nx sh mu := bs_icmp_ge d ht (fun h => kt ((nI_leI hb ha).mp h)) (fun h => kf (Nat.not_le.mp fun e => h ((nI_leI hb ha).mpr e)))
theorem bs_icmp_gtN {a b : Nat} {off : Int} {tgt : Nat} (d : decode X.2.1 pc = .ok (.if_icmp .gt off, 3)) (ht : (pc : Int) + off = (tgt : Int)) (ha : a < 2 ^ 31) (hb : b < 2 ^ 31) (kt : b < a → bs_V Z X rm tgt lo rest nc ns nx sh mu) (kf : a ≤ b → bs_V Z X rm (pc + 3) lo rest nc ns nx sh mu) : bs_V Z X rm pc lo (.int (nI b) :: .int (nI a) :: rest) nc ns nx sh mu := bs_icmp_gt d ht (fun h => kt ((nI_ltI hb ha).mp h)) (fun h => kf (Nat.not_lt.mp fun e => h ((nI_ltI hb ha).mpr e)))
theorem bs_icmp_leN {a b : Nat} {off : Int} {tgt : Nat} (d : decode X.2.1 pc = .ok (.if_icmp .le off, 3)) (ht : (pc : Int) + off = (tgt : Int)) (ha : a < 2 ^ 31) (hb : b < 2 ^ 31) (kt : a ≤ b → bs_V Z X rm tgt lo rest nc ns nx sh mu) (kf : b < a → bs_V Z X rm (pc + 3) lo rest nc ns nx sh mu) : bs_V Z X rm pc lo (.int (nI b) :: .int (nI a) :: rest) nc ns nx sh mu := bs_icmp_le d ht (fun h => kt ((nI_leI ha hb).mp h)) (fun h => kf (Nat.not_le.mp fun e => h ((nI_leI ha hb).mpr e)))
theorem bs_if_eqN {a : Nat} {off : Int} {tgt : Nat} (d : decode X.2.1 pc = .ok (.ifCond .eq off, 3)) (ht : (pc : Int) + off = (tgt : Int)) (ha : a < 2 ^ 31) (kt : a = 0 → bs_V Z X rm tgt lo rest nc ns nx sh mu) (kf : a ≠ 0 → bs_V Z X rm (pc + 3) lo rest nc ns nx sh mu) : bs_V Z X rm pc lo (.int (nI a) :: rest) nc ns nx sh mu := by
  have hb : 0 < 2 ^ 31 := by decide
  exact bs_if_eq d ht (fun h => kt (by rw [← nI_0] at h; exact (nI_eq ha hb).mp h)) (fun h => kf (by rw [← nI_0] at h; exact fun e => h ((nI_eq ha hb).mpr e)))
theorem bs_if_neN {a : Nat} {off : Int} {tgt : Nat} (d : decode X.2.1 pc = .ok (.ifCond .ne off, 3)) (ht : (pc : Int) + off = (tgt : Int)) (ha : a < 2 ^ 31) (kt : a ≠ 0 → bs_V Z X rm tgt lo rest nc ns nx sh mu) (kf : a = 0 → bs_V Z X rm (pc + 3) lo rest nc ns nx sh mu) : bs_V Z X rm pc lo (.int (nI a) :: rest) nc ns nx sh mu := by
  have hb : 0 < 2 ^ 31 := by decide
  exact bs_if_ne d ht (fun h => kt (by rw [← nI_0] at h; exact fun e => h ((nI_eq ha hb).mpr e))) (fun h => kf (by rw [← nI_0] at h; exact (nI_eq ha hb).mp h))
theorem bs_if_ltN {a : Nat} {off : Int} {tgt : Nat} (d : decode X.2.1 pc = .ok (.ifCond .lt off, 3)) (ht : (pc : Int) + off = (tgt : Int)) (ha : a < 2 ^ 31) (kt : a < 0 → bs_V Z X rm tgt lo rest nc ns nx sh mu) (kf : 0 ≤ a → bs_V Z X rm (pc + 3) lo rest nc ns nx sh mu) : bs_V Z X rm pc lo (.int (nI a) :: rest) nc ns nx sh mu := by
  have hb : 0 < 2 ^ 31 := by decide
  exact bs_if_lt d ht (fun h => kt (by rw [← nI_0] at h; exact (nI_ltI ha hb).mp h)) (fun h => kf (by rw [← nI_0] at h; exact Nat.not_lt.mp fun e => h ((nI_ltI ha hb).mpr e)))
theorem bs_if_geN {a : Nat} {off : Int} {tgt : Nat} (d : decode X.2.1 pc = .ok (.ifCond .ge off, 3)) (ht : (pc : Int) + off = (tgt : Int)) (ha : a < 2 ^ 31) (kt : 0 ≤ a → bs_V Z X rm tgt lo rest nc ns nx sh mu) (kf : a < 0 → bs_V Z X rm (pc + 3) lo rest nc ns nx sh mu) : bs_V Z X rm pc lo (.int (nI a) :: rest) nc ns nx sh mu := by
  have hb : 0 < 2 ^ 31 := by decide
  exact bs_if_ge d ht (fun h => kt (by rw [← nI_0] at h; exact (nI_leI hb ha).mp h)) (fun h => kf (by rw [← nI_0] at h; exact Nat.not_le.mp fun e => h ((nI_leI hb ha).mpr e)))
theorem bs_if_gtN {a : Nat} {off : Int} {tgt : Nat} (d : decode X.2.1 pc = .ok (.ifCond .gt off, 3)) (ht : (pc : Int) + off = (tgt : Int)) (ha : a < 2 ^ 31) (kt : 0 < a → bs_V Z X rm tgt lo rest nc ns nx sh mu) (kf : a ≤ 0 → bs_V Z X rm (pc + 3) lo rest nc ns nx sh mu) : bs_V Z X rm pc lo (.int (nI a) :: rest) nc ns nx sh mu := by
  have hb : 0 < 2 ^ 31 := by decide
  exact bs_if_gt d ht (fun h => kt (by rw [← nI_0] at h; exact (nI_ltI hb ha).mp h)) (fun h => kf (by rw [← nI_0] at h; exact Nat.not_lt.mp fun e => h ((nI_ltI hb ha).mpr e)))
theorem bs_if_leN {a : Nat} {off : Int} {tgt : Nat} (d : decode X.2.1 pc = .ok (.ifCond .le off, 3)) (ht : (pc : Int) + off = (tgt : Int)) (ha : a < 2 ^ 31) (kt : a ≤ 0 → bs_V Z X rm tgt lo rest nc ns nx sh mu) (kf : 0 < a → bs_V Z X rm (pc + 3) lo rest nc ns nx sh mu) : bs_V Z X rm pc lo (.int (nI a) :: rest) nc ns nx sh mu := by
  have hb : 0 < 2 ^ 31 := by decide
  exact bs_if_le d ht (fun h => kt (by rw [← nI_0] at h; exact (nI_leI ha hb).mp h)) (fun h => kf (by rw [← nI_0] at h; exact Nat.not_le.mp fun e => h ((nI_leI ha hb).mpr e)))
theorem bs_shlN {k0 : Nat} (d : decode X.2.1 pc = .ok (.ishl, 1)) (h : k0 < 31) (k : bs_V Z X rm (pc + 1) lo (.int (nI (2 ^ k0)) :: rest) nc ns nx sh mu) : bs_V Z X rm pc lo (.int (nI k0) :: .int (nI 1) :: rest) nc ns nx sh mu := bs_ishl d (bs_topq (bs_shl1 h) k)
theorem bs_shrN {a k0 : Nat} (d : decode X.2.1 pc = .ok (.ishr, 1)) (ha : a < 2 ^ 31) (h : k0 < 32) (k : bs_V Z X rm (pc + 1) lo (.int (nI (a / 2 ^ k0)) :: rest) nc ns nx sh mu) : bs_V Z X rm pc lo (.int (nI k0) :: .int (nI a) :: rest) nc ns nx sh mu := bs_ishr d (bs_topq (bs_shrI ha h) k)
theorem bs_andN {a b : Nat} (d : decode X.2.1 pc = .ok (.iand, 1)) (k : bs_V Z X rm (pc + 1) lo (.int (nI (a &&& b)) :: rest) nc ns nx sh mu) : bs_V Z X rm pc lo (.int (nI b) :: .int (nI a) :: rest) nc ns nx sh mu := bs_iand d (bs_topq (fa_and a b) k)
theorem bs_orN {a b : Nat} (d : decode X.2.1 pc = .ok (.ior, 1)) (k : bs_V Z X rm (pc + 1) lo (.int (nI (a ||| b)) :: rest) nc ns nx sh mu) : bs_V Z X rm pc lo (.int (nI b) :: .int (nI a) :: rest) nc ns nx sh mu := bs_ior d (bs_topq (fa_or a b) k)
theorem bs_xorN {a b : Nat} (d : decode X.2.1 pc = .ok (.ixor, 1)) (k : bs_V Z X rm (pc + 1) lo (.int (nI (a ^^^ b)) :: rest) nc ns nx sh mu) : bs_V Z X rm pc lo (.int (nI b) :: .int (nI a) :: rest) nc ns nx sh mu := bs_ixor d (bs_topq (bs_xorI a b) k)
theorem bs_remN {a b : Nat} (d : decode X.2.1 pc = .ok (.irem, 1)) (ha : a < 2 ^ 31) (h0 : 0 < b) (hb : b < 2 ^ 31) (k : bs_V Z X rm (pc + 1) lo (.int (nI (a % b)) :: rest) nc ns nx sh mu) : bs_V Z X rm pc lo (.int (nI b) :: .int (nI a) :: rest) nc ns nx sh mu := bs_irem d (nI_ne0 h0 hb) (bs_topq (pk_rem ha h0 hb) k)
end BSN
