/-! bits of an int, as the kit gives them -/
def bt (x : Int32) (i : Nat) : Bool := x.toBitVec.getLsbD i
theorem b_ext {x y : Int32} (h : ∀ i, i < 32 → bt x i = bt y i) : x = y := Int32.toBitVec_inj.mp (BitVec.eq_of_getLsbD_eq (fun i hi => h i hi))
theorem b_and (x y : Int32) (i : Nat) : bt (x &&& y) i = (bt x i && bt y i) := by unfold bt; rw [Int32.toBitVec_and, BitVec.getLsbD_and]
theorem s_l : ∀ n, n < 32 → ((nI n &&& 31).toBitVec.smod 32).toNat = n := by decide +kernel
theorem b_sshr (n : Nat) (hn : n < 32) (x : Int32) {i : Nat} (hi : i < 32) : bt (x >>> (nI n &&& 31)) i = if n + i < 32 then bt x (n + i) else bt x 31 := by
  unfold bt
  rw [Int32.toBitVec_shiftRight]
  show (x.toBitVec.sshiftRight ((nI n &&& 31).toBitVec.smod 32).toNat).getLsbD i = _
  rw [s_l n hn, BitVec.getLsbD_sshiftRight, BitVec.msb_eq_getLsbD_last]
  simp [hi]
theorem nx_and (a b : Nat) : nI a &&& nI b = nI (a &&& b) := by
  apply Int32.toBitVec_inj.1
  show BitVec.ofNat 32 a &&& BitVec.ofNat 32 b = BitVec.ofNat 32 (a &&& b)
  apply BitVec.eq_of_getLsbD_eq
  intro i hi
  simp [hi]
theorem nx_xor (a b : Nat) : nI a ^^^ nI b = nI (a ^^^ b) := by
  apply Int32.toBitVec_inj.1
  show BitVec.ofNat 32 a ^^^ BitVec.ofNat 32 b = BitVec.ofNat 32 (a ^^^ b)
  apply BitVec.eq_of_getLsbD_eq
  intro i hi
  simp [hi]
theorem nx_or (a b : Nat) : nI a ||| nI b = nI (a ||| b) := by
  apply Int32.toBitVec_inj.1
  show BitVec.ofNat 32 a ||| BitVec.ofNat 32 b = BitVec.ofNat 32 (a ||| b)
  apply BitVec.eq_of_getLsbD_eq
  intro i hi
  simp [hi]
theorem lx_and (a b : Nat) : lN a &&& lN b = lN (a &&& b) := by
  apply Int64.toBitVec_inj.1
  show BitVec.ofNat 64 a &&& BitVec.ofNat 64 b = BitVec.ofNat 64 (a &&& b)
  apply BitVec.eq_of_getLsbD_eq
  intro i hi
  simp [hi]
theorem lx_xor (a b : Nat) : lN a ^^^ lN b = lN (a ^^^ b) := by
  apply Int64.toBitVec_inj.1
  show BitVec.ofNat 64 a ^^^ BitVec.ofNat 64 b = BitVec.ofNat 64 (a ^^^ b)
  apply BitVec.eq_of_getLsbD_eq
  intro i hi
  simp [hi]
theorem lx_or (a b : Nat) : lN a ||| lN b = lN (a ||| b) := by
  apply Int64.toBitVec_inj.1
  show BitVec.ofNat 64 a ||| BitVec.ofNat 64 b = BitVec.ofNat 64 (a ||| b)
  apply BitVec.eq_of_getLsbD_eq
  intro i hi
  simp [hi]
theorem wb_tb (n : Nat) : (lN n).toBitVec = BitVec.ofNat 64 n := rfl
theorem wb_inj {a b : Int64} (h : a.toBitVec = b.toBitVec) : a = b := Int64.toBitVec_inj.mp h
theorem wb_tn {n : Nat} (h : n < 2 ^ 64) : (lN n).toBitVec.toNat = n := by rw [wb_tb, BitVec.toNat_ofNat, Nat.mod_eq_of_lt h]
theorem wb_c : ∀ k, k < 64 → ((nI k).toInt64 &&& 63) = lN k := by decide +kernel
theorem wb_cu : ∀ k, k < 64 → ((nI k).toInt64.toUInt64 &&& Int64.toUInt64 63) = UInt64.ofNat k := by decide +kernel
theorem wb_sm : ∀ k, k < 64 → (BitVec.ofNat 64 k).smod 64 = BitVec.ofNat 64 k := by decide +kernel
theorem wb_shr {n k : Nat} (hn : n < 2 ^ 64) (hk : k < 64) : ((lN n).toUInt64 >>> ((nI k).toInt64.toUInt64 &&& Int64.toUInt64 63)).toInt64 = lN (n / 2 ^ k) := by
  rw [wb_cu k hk]
  apply wb_inj
  apply BitVec.eq_of_toNat_eq
  show ((lN n).toUInt64 >>> UInt64.ofNat k).toNat = (BitVec.ofNat 64 _).toNat
  have h1 : (UInt64.ofNat k).toNat = k := by
    show (BitVec.ofNat 64 k).toNat = k
    rw [BitVec.toNat_ofNat, Nat.mod_eq_of_lt (by omega)]
  have h2 : (lN n).toUInt64.toNat = n := wb_tn hn
  rw [UInt64.toNat_shiftRight, h1, h2, Nat.mod_eq_of_lt hk, Nat.shiftRight_eq_div_pow, BitVec.toNat_ofNat, Nat.mod_eq_of_lt (Nat.lt_of_le_of_lt (Nat.div_le_self _ _) hn)]
theorem wb_shl (n : Nat) {k : Nat} (hk : k < 64) : lN n <<< ((nI k).toInt64 &&& 63) = lN (n * 2 ^ k) := by
  rw [wb_c k hk]
  apply wb_inj
  rw [Int64.toBitVec_shiftLeft, wb_tb, wb_tb, wb_tb, wb_sm k hk]
  apply BitVec.eq_of_toNat_eq
  rw [BitVec.shiftLeft_eq', BitVec.toNat_shiftLeft, BitVec.toNat_ofNat, BitVec.toNat_ofNat, BitVec.toNat_ofNat, Nat.mod_eq_of_lt (show k < 2 ^ 64 by omega), Nat.shiftLeft_eq, Nat.mul_mod, Nat.mod_mod, ← Nat.mul_mod]
/-! truth as an int, as a number -/
noncomputable def bN (P : Prop) : Nat := @ite _ P (Classical.propDecidable P) 1 0
theorem bN_t {P : Prop} (h : P) : bN P = 1 := if_pos h
theorem bN_f {P : Prop} (h : ¬ P) : bN P = 0 := if_neg h
theorem bN_le (P : Prop) : bN P ≤ 1 := by
  rcases Classical.em P with h | h
  · rw [bN_t h]; omega
  · rw [bN_f h]; omega
theorem bN_c {P Q : Prop} (h : P ↔ Q) : bN P = bN Q := by rw [propext h]
noncomputable def bI (P : Prop) : Int32 := nI (bN P)
theorem bI_t {P : Prop} (h : P) : bI P = nI 1 := by unfold bI; rw [bN_t h]
theorem bI_f {P : Prop} (h : ¬ P) : bI P = nI 0 := by unfold bI; rw [bN_f h]
theorem bI_c {P Q : Prop} (h : P ↔ Q) : bI P = bI Q := by rw [propext h]
theorem bI_0 (P : Prop) : (bI P = nI 0) = ¬ P := by
  rcases Classical.em P with h | h
  · rw [bI_t h]; simp [h]; decide
  · rw [bI_f h]; simp [h]
theorem bI_1 (P : Prop) : (bI P = nI 1) = P := by
  rcases Classical.em P with h | h
  · rw [bI_t h]; simp [h]
  · rw [bI_f h]; simp [h]; decide
theorem bI_01 (P : Prop) : (bI P = nI 0 ∨ bI P = nI 1) = True := by
  rw [bI_0, bI_1]; simp [Classical.em, or_comm]
/-! counting, and masks -/
noncomputable def cn (P : Nat → Prop) : Nat → Nat
  | 0 => 0
  | n + 1 => cn P n + bN (P n)
theorem cn_le (P : Nat → Prop) (n : Nat) : cn P n ≤ n := by
  induction n with
  | zero => exact Nat.le_refl 0
  | succ n ih => have := bN_le (P n); show cn P n + bN (P n) ≤ n + 1; omega
theorem cn_c {P Q : Nat → Prop} {n : Nat} (h : ∀ i, i < n → (P i ↔ Q i)) : cn P n = cn Q n := by
  induction n with
  | zero => rfl
  | succ n ih =>
    show cn P n + bN (P n) = cn Q n + bN (Q n)
    rw [ih (fun i hi => h i (by omega)), bN_c (h n (by omega))]
noncomputable def mk (P : Nat → Prop) : Nat → Nat
  | 0 => 0
  | n + 1 => mk P n ||| bN (P n) * 2 ^ n
theorem mk_tb (P : Nat → Prop) (N i : Nat) : (mk P N).testBit i = true ↔ i < N ∧ P i := by
  induction N with
  | zero => simp [mk]
  | succ n ih =>
    show (mk P n ||| bN (P n) * 2 ^ n).testBit i = true ↔ _
    rw [Nat.testBit_or, Bool.or_eq_true, ih]
    rcases Classical.em (P n) with h | h
    · rw [bN_t h, Nat.one_mul, Nat.testBit_two_pow, decide_eq_true_eq]
      constructor
      · rintro (⟨a, b⟩ | rfl)
        · exact ⟨by omega, b⟩
        · exact ⟨by omega, h⟩
      · rintro ⟨a, b⟩
        rcases Nat.lt_or_ge i n with c | c
        · exact Or.inl ⟨c, b⟩
        · exact Or.inr (by omega)
    · rw [bN_f h, Nat.zero_mul, Nat.zero_testBit]
      constructor
      · rintro (⟨a, b⟩ | q)
        · exact ⟨by omega, b⟩
        · cases q
      · rintro ⟨a, b⟩
        rcases Nat.lt_or_ge i n with c | c
        · exact Or.inl ⟨c, b⟩
        · have e : i = n := by omega
          subst e
          exact absurd b h
theorem mk_lt (P : Nat → Prop) (N : Nat) : mk P N < 2 ^ N := by
  induction N with
  | zero => simp [mk]
  | succ n ih =>
    show (mk P n ||| bN (P n) * 2 ^ n) < 2 ^ (n + 1)
    have h2 : 2 ^ (n + 1) = 2 ^ n * 2 := Nat.pow_succ 2 n
    apply Nat.or_lt_two_pow
    · omega
    · rcases Classical.em (P n) with h | h
      · rw [bN_t h]; omega
      · rw [bN_f h]; omega
theorem mk_c {P Q : Nat → Prop} {N : Nat} (h : ∀ i, i < N → (P i ↔ Q i)) : mk P N = mk Q N := by
  induction N with
  | zero => rfl
  | succ n ih =>
    show mk P n ||| bN (P n) * 2 ^ n = mk Q n ||| bN (Q n) * 2 ^ n
    rw [ih (fun i hi => h i (by omega)), bN_c (h n (by omega))]
theorem tb_c {a b : Nat} (h : ∀ i, a.testBit i = true ↔ b.testBit i = true) : a = b :=
  Nat.eq_of_testBit_eq (fun i => Bool.eq_iff_iff.mpr (h i))
theorem mk_i {P Q : Nat → Prop} {N : Nat} : mk P N = mk Q N ↔ ∀ i, i < N → (P i ↔ Q i) := by
  refine ⟨fun e i hi => ?_, mk_c⟩
  have h1 := mk_tb P N i
  rw [e, mk_tb Q N i] at h1
  exact ⟨fun p => (h1.mpr ⟨hi, p⟩).2, fun q => (h1.mp ⟨hi, q⟩).2⟩
theorem mk_or (P Q : Nat → Prop) (N : Nat) : mk P N ||| mk Q N = mk (fun i => P i ∨ Q i) N := by
  apply tb_c; intro i
  rw [Nat.testBit_or, Bool.or_eq_true, mk_tb, mk_tb, mk_tb]
  constructor
  · rintro (⟨a, b⟩ | ⟨a, b⟩)
    · exact ⟨a, Or.inl b⟩
    · exact ⟨a, Or.inr b⟩
  · rintro ⟨a, b | b⟩
    · exact Or.inl ⟨a, b⟩
    · exact Or.inr ⟨a, b⟩
theorem mk_and (P Q : Nat → Prop) (N : Nat) : mk P N &&& mk Q N = mk (fun i => P i ∧ Q i) N := by
  apply tb_c; intro i
  rw [Nat.testBit_and, Bool.and_eq_true, mk_tb, mk_tb, mk_tb]
  constructor
  · rintro ⟨⟨a, b⟩, ⟨c, d⟩⟩
    exact ⟨a, b, d⟩
  · rintro ⟨a, b, c⟩
    exact ⟨⟨a, b⟩, ⟨a, c⟩⟩
theorem mk_f (N : Nat) : mk (fun _ => False) N = 0 := by
  apply tb_c; intro i
  rw [mk_tb, Nat.zero_testBit]
  simp
theorem mk_all (N : Nat) : mk (fun _ => True) N = 2 ^ N - 1 := by
  apply tb_c; intro i
  rw [mk_tb, Nat.testBit_two_pow_sub_one]
  simp
theorem mk_pow {d N : Nat} (h : d < N) : 2 ^ d = mk (fun i => i = d) N := by
  apply tb_c; intro i
  rw [mk_tb, Nat.testBit_two_pow, decide_eq_true_eq]
  constructor
  · rintro rfl; exact ⟨h, rfl⟩
  · rintro ⟨_, rfl⟩; rfl
theorem mk_xor (P Q : Nat → Prop) (N : Nat) : mk P N ^^^ mk Q N = mk (fun i => ¬ (P i ↔ Q i)) N := by
  apply tb_c; intro i
  rw [Nat.testBit_xor, mk_tb]
  have h1 := mk_tb P N i
  have h2 := mk_tb Q N i
  cases e1 : (mk P N).testBit i <;> cases e2 : (mk Q N).testBit i <;> rw [e1] at h1 <;> rw [e2] at h2 <;> simp at h1 h2 ⊢
  · intro hi; exact ⟨fun p => absurd p (h1 hi), fun q => absurd q (h2 hi)⟩
  · exact ⟨h2.1, fun e => h1 h2.1 (e.mpr h2.2)⟩
  · exact ⟨h1.1, fun e => h2 h1.1 (e.mp h1.2)⟩
  · intro hi; exact ⟨fun _ => h2.2, fun _ => h1.2⟩
theorem mk_andn (P Q : Nat → Prop) {N M : Nat} (h : N ≤ M) : mk P N &&& (mk Q N ^^^ (2 ^ M - 1)) = mk (fun i => P i ∧ ¬ Q i) N := by
  apply tb_c; intro i
  rw [Nat.testBit_and, Nat.testBit_xor, Nat.testBit_two_pow_sub_one, Bool.and_eq_true, mk_tb, mk_tb]
  have h2 := mk_tb Q N i
  constructor
  · rintro ⟨⟨a, b⟩, c⟩
    refine ⟨a, b, fun q => ?_⟩
    rw [h2.mpr ⟨a, q⟩, decide_eq_true (show i < M by omega)] at c
    exact absurd c (by decide)
  · rintro ⟨a, b, c⟩
    refine ⟨⟨a, b⟩, ?_⟩
    rw [decide_eq_true (show i < M by omega)]
    cases e : (mk Q N).testBit i
    · rfl
    · exact absurd (h2.mp e).2 c
theorem mk_mono {P Q : Nat → Prop} {N : Nat} (h : ∀ i, i < N → P i → Q i) : cn P N ≤ cn Q N := by
  induction N with
  | zero => exact Nat.le_refl 0
  | succ n ih =>
    show cn P n + bN (P n) ≤ cn Q n + bN (Q n)
    have h1 := ih (fun i hi => h i (by omega))
    rcases Classical.em (P n) with hp | hp
    · rw [bN_t hp, bN_t (h n (by omega) hp)]; omega
    · rw [bN_f hp]; omega
/-- bits counted -/
def pc (a : Nat) : Nat → Nat
  | 0 => 0
  | n + 1 => pc a n + (a.testBit n).toNat
theorem pc_mk (P : Nat → Prop) (N M : Nat) (h : M ≤ N) : pc (mk P N) M = cn P M := by
  induction M with
  | zero => rfl
  | succ n ih =>
    show pc (mk P N) n + ((mk P N).testBit n).toNat = cn P n + bN (P n)
    rw [ih (by omega)]
    have h1 := mk_tb P N n
    cases e : (mk P N).testBit n
    · rw [e] at h1
      rw [bN_f (fun p => by have := h1.mpr ⟨by omega, p⟩; cases this)]; rfl
    · rw [bN_t (h1.mp e).2]; rfl
/-! numbers of the machine -/
theorem q_le (a b : Nat) (ha : a < 2 ^ 31) (hb : b < 2 ^ 31) : (nI a ≤ nI b) = (a ≤ b) := propext (nI_leI ha hb)
theorem q_lt (a b : Nat) (ha : a < 2 ^ 31) (hb : b < 2 ^ 31) : (nI a < nI b) = (a < b) := propext (nI_ltI ha hb)
theorem q_eq (a b : Nat) (ha : a < 2 ^ 31) (hb : b < 2 ^ 31) : (nI a = nI b) = (a = b) := propext (nI_eq ha hb)
theorem q_le_t {a b : Nat} (h : a ≤ b) (hb : b < 2147483648) : (nI a ≤ nI b) = True := eq_true (nI_le h hb)
theorem q_le_f {a b : Nat} (h : b < a) (ha : a < 2147483648) : (nI a ≤ nI b) = False := eq_false (nI_ge h ha)
theorem q_lt_t {a b : Nat} (h : a < b) (hb : b < 2147483648) : (nI a < nI b) = True := eq_true (nI_lt h hb)
theorem q_lt_f {a b : Nat} (h : b ≤ a) (ha : a < 2147483648) : (nI a < nI b) = False := eq_false (nI_nlt h ha)
theorem q_eq_f {a b : Nat} (h : a ≠ b) (ha : a < 2147483648) (hb : b < 2147483648) : (nI a = nI b) = False := eq_false (fun e => h ((nI_eq ha hb).mp e))
theorem q_eq_t {a b : Nat} (h : a = b) : (nI a = nI b) = True := eq_true (by rw [h])
theorem q_oob {a n : Nat} (h : a < n) (hn : n < 2147483648) : oob (nI a) n = False := eq_false (nI_in h hn)
theorem q_cl {a : Nat} (h : a < 2147483648) : (nI a).toNatClampNeg = a := nI_clamp h
theorem q_mul (a b : Nat) : nI a * nI b = nI (a * b) := (Int32.ofNat_mul a b).symm
theorem q_sub {a b : Nat} (h : b ≤ a) : nI a - nI b = nI (a - b) := by
  have : nI (a - b) + nI b = nI a := by rw [nI_add]; congr 1; omega
  rw [← this, Int32.add_sub_cancel]
theorem z0 : (0 : Int32) = nI 0 := by decide +kernel
theorem z1 : (1 : Int32) = nI 1 := by decide +kernel
theorem z2 : (2 : Int32) = nI 2 := by decide +kernel
theorem z4 : (4 : Int32) = nI 4 := by decide +kernel
theorem z6 : (6 : Int32) = nI 6 := by decide +kernel
theorem z7 : (7 : Int32) = nI 7 := by decide +kernel
theorem z8 : (8 : Int32) = nI 8 := by decide +kernel
theorem z64 : (64 : Int32) = nI 64 := by decide +kernel
theorem z512 : (512 : Int32) = nI 512 := by decide +kernel
theorem zT : (200000 : Int32) = nI 200000 := by decide +kernel
theorem zm1 : (-1 : Int32) = nI (2 ^ 32 - 1) := by decide +kernel
theorem ym1 : (-1 : Int64) = lN (2 ^ 64 - 1) := by decide +kernel
theorem FU_eq : FU = 2147483648 := rfl
theorem q_neg {a : Nat} (h : a < 2147483648) : ¬ nI a = -1 := by
  intro e
  have h1 := nI_toInt (n := a) (by omega)
  rw [e] at h1
  have : (-1 : Int32).toInt = -1 := by decide
  omega
/-! masks as ints and longs -/
theorem i_shl : ∀ d, d < 31 → (nI 1) <<< (nI d &&& 31) = nI (2 ^ d) := by decide +kernel
theorem bt_nI (a i : Nat) (h : i < 32) : bt (nI a) i = a.testBit i := by
  show (BitVec.ofNat 32 a).getLsbD i = _
  rw [BitVec.getLsbD_ofNat]; simp [h]
theorem bt_1 : ∀ i, i < 32 → bt (nI 1) i = decide (i = 0) := by decide +kernel
theorem i_a1 (x : Int32) : x &&& nI 1 = nI (bt x 0).toNat := by
  apply b_ext; intro i hi
  rw [b_and, bt_1 i hi]
  by_cases e : i = 0
  · subst e; cases h : bt x 0 <;> decide
  · rw [decide_eq_false e, Bool.and_false]
    cases h : bt x 0
    · rw [bt_nI _ _ hi]; simp
    · show false = bt (nI 1) i
      rw [bt_1 i hi, decide_eq_false e]
theorem i_bit {a d : Nat} (hd : d < 31) : (nI a >>> (nI d &&& 31)) &&& nI 1 = nI (a.testBit d).toNat := by
  rw [i_a1, b_sshr d (by omega) _ (by omega), if_pos (by omega), Nat.add_zero, bt_nI _ _ (by omega)]
theorem i_bit0 {P : Nat → Prop} {N d : Nat} (hd : d < N) (hN : N ≤ 30) : ((nI (mk P N) >>> (nI d &&& 31)) &&& nI 1 = nI 0) = ¬ P d := by
  rw [i_bit (by omega)]
  have h := mk_tb P N d
  cases e : (mk P N).testBit d
  · rw [e] at h
    exact propext ⟨fun _ p => (Bool.false_ne_true (h.mpr ⟨hd, p⟩)).elim, fun _ => rfl⟩
  · exact propext ⟨fun q => absurd q (by decide), fun q => absurd (h.mp e).2 q⟩
theorem i_bit1 {P : Nat → Prop} {N d : Nat} (hd : d < N) (hN : N ≤ 30) : ((nI (mk P N) >>> (nI d &&& 31)) &&& nI 1 = nI 1) = P d := by
  rw [i_bit (by omega)]
  have h := mk_tb P N d
  cases e : (mk P N).testBit d
  · rw [e] at h
    exact propext ⟨fun q => absurd q (by decide), fun p => (Bool.false_ne_true (h.mpr ⟨hd, p⟩)).elim⟩
  · exact propext ⟨fun _ => (h.mp e).2, fun _ => rfl⟩
theorem i_set {P : Nat → Prop} {N d : Nat} (hd : d < N) (hN : N ≤ 30) : nI (mk P N) ||| (nI 1 <<< (nI d &&& 31)) = nI (mk (fun i => P i ∨ i = d) N) := by
  rw [i_shl d (by omega), nx_or, mk_pow hd, mk_or]
theorem i_push {P : Nat → Prop} {d : Nat} (hd : d < 30) (h : P d) : nI (mk P d) ||| (nI 1 <<< (nI d &&& 31)) = nI (mk P (d + 1)) := by
  rw [i_shl d (by omega), nx_or]
  show _ = nI (mk P d ||| bN (P d) * 2 ^ d)
  rw [bN_t h, Nat.one_mul]
theorem i_skip {P : Nat → Prop} {d : Nat} (h : ¬ P d) : mk P (d + 1) = mk P d := by
  show mk P d ||| bN (P d) * 2 ^ d = _
  rw [bN_f h, Nat.zero_mul, Nat.or_zero]
theorem i_clr {P : Nat → Prop} {N d : Nat} (hd : d < N) (hN : N ≤ 30) : nI (mk P N) &&& ((nI 1 <<< (nI d &&& 31)) ^^^ (-1 : Int32)) = nI (mk (fun i => P i ∧ ¬ i = d) N) := by
  rw [i_shl d (by omega), zm1, nx_xor, nx_and, mk_pow hd, mk_andn P _ (by omega)]
theorem i_sub {P Q : Nat → Prop} {N : Nat} (hN : N ≤ 30) : (nI (mk P N) &&& (nI (mk Q N) ^^^ (-1 : Int32)) = nI 0) = ∀ i, i < N → P i → Q i := by
  have h1 := mk_lt (fun i => P i ∧ ¬ Q i) N
  have h2 : 2 ^ N ≤ 2 ^ 30 := Nat.pow_le_pow_right (by decide) hN
  rw [zm1, nx_xor, nx_and, mk_andn P Q (by omega), q_eq _ _ (by omega) (by omega), ← mk_f N]
  apply propext
  rw [mk_i]
  constructor
  · intro h i hi p
    rcases Classical.em (Q i) with q | q
    · exact q
    · exact ((h i hi).mp ⟨p, q⟩).elim
  · intro h i hi
    exact ⟨fun ⟨p, q⟩ => q (h i hi p), fun f => f.elim⟩
theorem i_and (P Q : Nat → Prop) (N : Nat) : nI (mk P N) &&& nI (mk Q N) = nI (mk (fun i => P i ∧ Q i) N) := by rw [nx_and, mk_and]
theorem i_xor (P Q : Nat → Prop) (N : Nat) : nI (mk P N) ^^^ nI (mk Q N) = nI (mk (fun i => ¬ (P i ↔ Q i)) N) := by rw [nx_xor, mk_xor]
theorem i_eqm {P Q : Nat → Prop} {N : Nat} (hN : N ≤ 30) : (nI (mk P N) = nI (mk Q N)) = ∀ i, i < N → (P i ↔ Q i) := by
  have h1 := mk_lt P N
  have h3 := mk_lt Q N
  have h2 : 2 ^ N ≤ 2 ^ 30 := Nat.pow_le_pow_right (by decide) hN
  rw [q_eq _ _ (by omega) (by omega)]
  exact propext mk_i
theorem bc_S (x : Int32) (S : SS) : f_JI_bitCount x S = f_JI_bitCount x (fun _ _ => 0, fun _ _ => 0) := rfl
theorem bc_dec : ∀ a, a < 256 → f_JI_bitCount (nI a) (fun _ _ => 0, fun _ _ => 0) = some (nI (pc a 8)) := by decide +kernel
theorem lc_S (x : Int64) (S : SS) : f_JL_bitCount x S = f_JL_bitCount x (fun _ _ => 0, fun _ _ => 0) := rfl
theorem lc_dec : ∀ a, a < 256 → f_JL_bitCount (lN a) (fun _ _ => 0, fun _ _ => 0) = some (nI (pc a 8)) := by decide +kernel
theorem pc_more {P : Nat → Prop} {N : Nat} : ∀ M, N ≤ M → pc (mk P N) M = cn P N := by
  intro M h
  induction M with
  | zero =>
    have : N = 0 := by omega
    subst this; rfl
  | succ n ih =>
    rcases Nat.lt_or_ge n N with c | c
    · have : N = n + 1 := by omega
      subst this
      exact pc_mk P (n + 1) (n + 1) (Nat.le_refl _)
    · show pc (mk P N) n + ((mk P N).testBit n).toNat = _
      rw [ih c]
      have h1 := mk_tb P N n
      cases e : (mk P N).testBit n
      · rfl
      · exact absurd (h1.mp e).1 (by omega)
theorem i_bc {P : Nat → Prop} {N : Nat} (hN : N ≤ 8) (S : SS) : f_JI_bitCount (nI (mk P N)) S = some (nI (cn P N)) := by
  have h1 := mk_lt P N
  have h2 : 2 ^ N ≤ 2 ^ 8 := Nat.pow_le_pow_right (by decide) hN
  rw [bc_S, bc_dec _ (by omega), pc_more 8 hN]
/-! longs -/
theorem l_cmp (x y : Int64) : (lg_cmp x y = nI 0) = (x = y) := by
  unfold lg_cmp
  by_cases h : x > y
  · rw [if_pos h]
    apply propext
    constructor
    · intro e; exact absurd e (by decide)
    · intro e; subst e; exact absurd h (Int64.lt_irrefl)
  · rw [if_neg h]
    by_cases e : x = y
    · rw [if_pos e]; exact propext ⟨fun _ => e, fun _ => rfl⟩
    · rw [if_neg e]; exact propext ⟨fun q => absurd q (by decide), fun q => absurd q e⟩
theorem l_eq {a b : Nat} (ha : a < 2 ^ 64) (hb : b < 2 ^ 64) : (lN a = lN b) = (a = b) := by
  apply propext
  refine ⟨fun e => ?_, fun e => by rw [e]⟩
  have := wb_tn ha
  rw [e, wb_tn hb] at this
  exact this.symm
theorem l_eqm {P Q : Nat → Prop} {N : Nat} (hN : N ≤ 64) : (lN (mk P N) = lN (mk Q N)) = ∀ i, i < N → (P i ↔ Q i) := by
  have h1 := mk_lt P N
  have h3 := mk_lt Q N
  have h2 : 2 ^ N ≤ 2 ^ 64 := Nat.pow_le_pow_right (by decide) hN
  rw [l_eq (by omega) (by omega)]
  exact propext mk_i
theorem l_or (P Q : Nat → Prop) (N : Nat) : lN (mk P N) ||| lN (mk Q N) = lN (mk (fun i => P i ∨ Q i) N) := by rw [lx_or, mk_or]
theorem l_bit {p x N : Nat} (h : p * 8 + x < N) (hN : N ≤ 64) : (1 : Int64) <<< ((nI p * nI 8 + nI x).toInt64 &&& 63) = lN (mk (fun i => i = p * 8 + x) N) := by
  rw [q_mul, nI_add, show (1 : Int64) = lN 1 from rfl, wb_shl 1 (by omega), Nat.one_mul, mk_pow h]
theorem l_in {P Q : Nat → Prop} {N : Nat} (hN : N ≤ 64) (S : SS) : f_Board_isWithin (lN (mk P N)) (lN (mk Q N)) S = some (bI (∀ i, i < N → P i → Q i)) := by
  rw [f_Board_isWithin_s]
  have h1 := mk_lt (fun i => P i ∧ ¬ Q i) N
  have h2 : 2 ^ N ≤ 2 ^ 64 := Nat.pow_le_pow_right (by decide) hN
  have e : (lg_cmp (lN (mk P N) &&& (lN (mk Q N) ^^^ (-1 : Int64))) (0 : Int64) = 0) = ∀ i, i < N → P i → Q i := by
    rw [z0, l_cmp, ym1, lx_xor, lx_and, mk_andn P Q hN, show (0 : Int64) = lN 0 from rfl, l_eq (by omega) (by omega), ← mk_f N]
    apply propext
    rw [mk_i]
    constructor
    · intro h i hi p
      rcases Classical.em (Q i) with q | q
      · exact q
      · exact ((h i hi).mp ⟨p, q⟩).elim
    · intro h i hi
      exact ⟨fun ⟨p, q⟩ => q (h i hi p), fun f => f.elim⟩
  rcases Classical.em (∀ i, i < N → P i → Q i) with h | h
  · rw [if_pos (e.mpr h), bI_t h]; rfl
  · rw [if_neg (fun q => h (e.mp q)), bI_f h]; rfl
/-! branches -/
noncomputable def cif {α : Type} (P : Prop) (a b : α) : α := @ite α P (Classical.propDecidable P) a b
theorem cif_t {α : Type} {P : Prop} {a b : α} (h : P) : cif P a b = a := if_pos h
theorem cif_f {α : Type} {P : Prop} {a b : α} (h : ¬ P) : cif P a b = b := if_neg h
theorem if_b0 {α : Type} (P : Prop) (a b : α) : (if bI P = nI 0 then a else b) = cif P b a := by
  rcases Classical.em P with h | h
  · rw [cif_t h, if_neg (by rw [bI_0]; exact not_not_intro h)]
  · rw [cif_f h, if_pos (by rw [bI_0]; exact h)]
theorem if_b1 {α : Type} (P : Prop) (a b : α) : (if bI P = nI 1 then a else b) = cif P a b := by
  rcases Classical.em P with h | h
  · rw [cif_t h, if_pos (by rw [bI_1]; exact h)]
  · rw [cif_f h, if_neg (by rw [bI_1]; exact h)]
theorem if_b01 {α : Type} (P : Prop) (a b : α) : (if bI P = nI 0 ∨ bI P = nI 1 then a else b) = a := if_pos (by rw [bI_01]; trivial)
theorem if_bit {α : Type} {P : Nat → Prop} {N d : Nat} (hd : d < N) (hN : N ≤ 30) (a b : α) : (if (nI (mk P N) >>> (nI d &&& 31)) &&& nI 1 = nI 0 then a else b) = cif (P d) b a := by
  rcases Classical.em (P d) with h | h
  · rw [cif_t h, if_neg (by rw [i_bit0 hd hN]; exact not_not_intro h)]
  · rw [cif_f h, if_pos (by rw [i_bit0 hd hN]; exact h)]
theorem if_bit1 {α : Type} {P : Nat → Prop} {N d : Nat} (hd : d < N) (hN : N ≤ 30) (a b : α) : (if (nI (mk P N) >>> (nI d &&& 31)) &&& nI 1 = nI 1 then a else b) = cif (P d) a b := by
  rcases Classical.em (P d) with h | h
  · rw [cif_t h, if_pos (by rw [i_bit1 hd hN]; exact h)]
  · rw [cif_f h, if_neg (by rw [i_bit1 hd hN]; exact h)]
theorem if_lc {α : Type} {P Q : Nat → Prop} {N : Nat} (hN : N ≤ 64) (a b : α) : (if lg_cmp (lN (mk P N)) (lN (mk Q N)) = nI 0 then a else b) = cif (∀ i, i < N → (P i ↔ Q i)) a b := by
  rcases Classical.em (∀ i, i < N → (P i ↔ Q i)) with h | h
  · rw [cif_t h, if_pos (by rw [l_cmp, l_eqm hN]; exact h)]
  · rw [cif_f h, if_neg (by rw [l_cmp, l_eqm hN]; exact h)]
theorem if_mm {α : Type} {P Q : Nat → Prop} {N : Nat} (hN : N ≤ 30) (a b : α) : (if nI (mk P N) = nI (mk Q N) then a else b) = cif (∀ i, i < N → (P i ↔ Q i)) a b := by
  rcases Classical.em (∀ i, i < N → (P i ↔ Q i)) with h | h
  · rw [cif_t h, if_pos (by rw [i_eqm hN]; exact h)]
  · rw [cif_f h, if_neg (by rw [i_eqm hN]; exact h)]
theorem if_sub {α : Type} {P Q : Nat → Prop} {N : Nat} (hN : N ≤ 30) (a b : α) : (if nI (mk P N) &&& (nI (mk Q N) ^^^ (-1 : Int32)) = nI 0 then a else b) = cif (∀ i, i < N → P i → Q i) a b := by
  rcases Classical.em (∀ i, i < N → P i → Q i) with h | h
  · rw [cif_t h, if_pos (by rw [i_sub hN]; exact h)]
  · rw [cif_f h, if_neg (by rw [i_sub hN]; exact h)]
