/-! bits -/
theorem and_sp {a b c d : Nat} (ha : a < 256) (hc : c < 256) : (a + 256 * b) &&& (c + 256 * d) = (a &&& c) + 256 * (b &&& d) := by
  have hac : a &&& c < 2 ^ 8 := Nat.lt_of_le_of_lt Nat.and_le_left ha
  apply Nat.eq_of_testBit_eq
  intro i
  rw [Nat.testBit_and, Nat.add_comm a, Nat.add_comm c, Nat.add_comm (a &&& c), show (256 : Nat) = 2 ^ 8 from rfl, Nat.testBit_two_pow_mul_add _ ha, Nat.testBit_two_pow_mul_add _ hc, Nat.testBit_two_pow_mul_add _ hac]
  split
  · rw [Nat.testBit_and]
  · rw [Nat.testBit_and]
def m4 (a b c d : Nat) : Nat := a + 256 * (b + 256 * (c + 256 * d))
theorem and_m4 {a b c d e f g k : Nat} (ha : a < 256) (hb : b < 256) (hc : c < 256) (he : e < 256) (hf : f < 256) (hg : g < 256) : m4 a b c d &&& m4 e f g k = m4 (a &&& e) (b &&& f) (c &&& g) (d &&& k) := by
  unfold m4
  rw [and_sp ha he, and_sp hb hf, and_sp hc hg]
set_option maxRecDepth 100000 in
theorem bt1 : ∀ a, a < 256 → (a / 2 + 128) &&& 85 = (a / 2) &&& 85 ∧ (a / 2) &&& 85 ≤ a := by decide +kernel
set_option maxRecDepth 100000 in
theorem bt2 : ∀ a, a < 256 → ∀ e, e < 4 → (a / 4 + 64 * e) &&& 51 = (a / 4) &&& 51 := by decide +kernel
def f1 (a : Nat) : Nat := a - ((a / 2) &&& 85)
def f2 (a : Nat) : Nat := (a &&& 51) + ((a / 4) &&& 51)
def p8 (a : Nat) : Nat := nb (a.testBit 0) + nb (a.testBit 1) + nb (a.testBit 2) + nb (a.testBit 3) + nb (a.testBit 4) + nb (a.testBit 5) + nb (a.testBit 6) + nb (a.testBit 7)
set_option maxRecDepth 100000 in
theorem bt3 : ∀ a, a < 256 → f2 (f1 a) % 16 ≤ 4 ∧ f2 (f1 a) / 16 ≤ 4 ∧ f2 (f1 a) % 16 + f2 (f1 a) / 16 = p8 a := by decide +kernel
theorem bt1' {a e : Nat} (ha : a < 256) (he : e < 2) : (a / 2 + 128 * e) &&& 85 = (a / 2) &&& 85 := by
  rcases (show e = 0 ∨ e = 1 by omega) with rfl | rfl
  · rfl
  · exact (bt1 a ha).1
def bs1 (n : Nat) : Nat := n - ((n / 2) &&& 1431655765)
def bs2 (n : Nat) : Nat := (n &&& 858993459) + ((n / 4) &&& 858993459)
def bs3 (n : Nat) : Nat := (n + n / 16) &&& 252645135
def bs4 (n : Nat) : Nat := n + n / 256
def bs5 (n : Nat) : Nat := n + n / 65536
theorem m55 : 1431655765 = m4 85 85 85 85 := rfl
theorem m33 : 858993459 = m4 51 51 51 51 := rfl
theorem m0f : 252645135 = m4 15 15 15 15 := rfl
theorem bs1_m {a b c d : Nat} (ha : a < 256) (hb : b < 256) (hc : c < 256) (hd : d < 256) : bs1 (m4 a b c d) = m4 (f1 a) (f1 b) (f1 c) (f1 d) ∧ m4 a b c d / 2 &&& 1431655765 ≤ m4 a b c d := by
  unfold bs1
  have e : m4 a b c d / 2 = m4 (a / 2 + 128 * (b % 2)) (b / 2 + 128 * (c % 2)) (c / 2 + 128 * (d % 2)) (d / 2 + 128 * 0) := by unfold m4; omega
  rw [e, m55, and_m4 (by omega) (by omega) (by omega) (by omega) (by omega) (by omega), bt1' ha (by omega), bt1' hb (by omega), bt1' hc (by omega), bt1' hd (by omega)]
  have := (bt1 a ha).2; have := (bt1 b hb).2; have := (bt1 c hc).2; have := (bt1 d hd).2
  unfold m4 f1
  omega
theorem f1_lt {a : Nat} (ha : a < 256) : f1 a < 256 := by unfold f1; omega
theorem bs2_m {a b c d : Nat} (ha : a < 256) (hb : b < 256) (hc : c < 256) (hd : d < 256) : bs2 (m4 a b c d) = m4 (f2 a) (f2 b) (f2 c) (f2 d) := by
  unfold bs2
  have e : m4 a b c d / 4 = m4 (a / 4 + 64 * (b % 4)) (b / 4 + 64 * (c % 4)) (c / 4 + 64 * (d % 4)) (d / 4 + 64 * 0) := by unfold m4; omega
  rw [e, m33, and_m4 (by omega) (by omega) (by omega) (by omega) (by omega) (by omega), and_m4 (by omega) (by omega) (by omega) (by omega) (by omega) (by omega), bt2 a ha _ (by omega), bt2 b hb _ (by omega), bt2 c hc _ (by omega), bt2 d hd _ (by omega)]
  unfold m4 f2
  omega
theorem and15 (x : Nat) : x &&& 15 = x % 16 := Nat.and_two_pow_sub_one_eq_mod x 4
theorem and63 (x : Nat) : x &&& 63 = x % 64 := Nat.and_two_pow_sub_one_eq_mod x 6
theorem bs3_m {a b c d : Nat} (ha : a % 16 ≤ 4 ∧ a / 16 ≤ 4) (hb : b % 16 ≤ 4 ∧ b / 16 ≤ 4) (hc : c % 16 ≤ 4 ∧ c / 16 ≤ 4) (hd : d % 16 ≤ 4 ∧ d / 16 ≤ 4) : bs3 (m4 a b c d) = m4 (a % 16 + a / 16) (b % 16 + b / 16) (c % 16 + c / 16) (d % 16 + d / 16) := by
  unfold bs3
  have e : m4 a b c d + m4 a b c d / 16 = m4 (a + a / 16 + 16 * (b % 16)) (b + b / 16 + 16 * (c % 16)) (c + c / 16 + 16 * (d % 16)) (d + d / 16) := by unfold m4; omega
  rw [e, m0f, and_m4 (by omega) (by omega) (by omega) (by omega) (by omega) (by omega), and15, and15, and15, and15]
  congr 1 <;> omega
theorem p8_le (a : Nat) : p8 a ≤ 8 := by
  unfold p8
  have := nb_le (a.testBit 0); have := nb_le (a.testBit 1); have := nb_le (a.testBit 2); have := nb_le (a.testBit 3); have := nb_le (a.testBit 4); have := nb_le (a.testBit 5); have := nb_le (a.testBit 6); have := nb_le (a.testBit 7)
  omega
theorem bs_m {a b c d : Nat} (ha : a < 256) (hb : b < 256) (hc : c < 256) (hd : d < 256) : bs3 (bs2 (bs1 (m4 a b c d))) = m4 (p8 a) (p8 b) (p8 c) (p8 d) := by
  rw [(bs1_m ha hb hc hd).1, bs2_m (f1_lt ha) (f1_lt hb) (f1_lt hc) (f1_lt hd)]
  obtain ⟨a1, a2, a3⟩ := bt3 a ha
  obtain ⟨b1, b2, b3⟩ := bt3 b hb
  obtain ⟨c1, c2, c3⟩ := bt3 c hc
  obtain ⟨d1, d2, d3⟩ := bt3 d hd
  rw [bs3_m ⟨a1, a2⟩ ⟨b1, b2⟩ ⟨c1, c2⟩ ⟨d1, d2⟩, a3, b3, c3, d3]
def pcF (n : Nat) (k x : Nat) : Nat := k + nb (n.testBit x)
def pc32 (n : Nat) : Nat := (List.range' 0 32).foldl (pcF n) 0
theorem tb_lo {a b i : Nat} (ha : a < 256) (hi : i < 8) : (a + 256 * b).testBit i = a.testBit i := by
  rw [Nat.add_comm, show (256 : Nat) = 2 ^ 8 from rfl, Nat.testBit_two_pow_mul_add _ ha, if_pos hi]
theorem tb_hi {a b i : Nat} (ha : a < 256) : (a + 256 * b).testBit (i + 8) = b.testBit i := by
  rw [Nat.add_comm, show (256 : Nat) = 2 ^ 8 from rfl, Nat.testBit_two_pow_mul_add _ ha, if_neg (by omega), Nat.add_sub_cancel]
theorem pc_m {a b c d : Nat} (ha : a < 256) (hb : b < 256) (hc : c < 256) : pc32 (m4 a b c d) = p8 a + p8 b + p8 c + p8 d := by
  have l0 : ∀ i, i < 8 → (m4 a b c d).testBit i = a.testBit i := fun i hi => tb_lo ha hi
  have l1 : ∀ i, i < 8 → (m4 a b c d).testBit (i + 8) = b.testBit i := fun i hi => by unfold m4; rw [tb_hi ha, tb_lo hb hi]
  have l2 : ∀ i, i < 8 → (m4 a b c d).testBit (i + 16) = c.testBit i := fun i hi => by
    unfold m4; rw [show i + 16 = i + 8 + 8 from rfl, tb_hi ha, tb_hi hb, tb_lo hc hi]
  have l3 : ∀ i, (m4 a b c d).testBit (i + 24) = d.testBit i := fun i => by
    unfold m4; rw [show i + 24 = i + 8 + 8 + 8 from rfl, tb_hi ha, tb_hi hb, tb_hi hc]
  have e : ∀ n, pc32 n = 0 + nb (n.testBit 0) + nb (n.testBit 1) + nb (n.testBit 2) + nb (n.testBit 3) + nb (n.testBit 4) + nb (n.testBit 5) + nb (n.testBit 6) + nb (n.testBit 7) + nb (n.testBit (0 + 8)) + nb (n.testBit (1 + 8)) + nb (n.testBit (2 + 8)) + nb (n.testBit (3 + 8)) + nb (n.testBit (4 + 8)) + nb (n.testBit (5 + 8)) + nb (n.testBit (6 + 8)) + nb (n.testBit (7 + 8)) + nb (n.testBit (0 + 16)) + nb (n.testBit (1 + 16)) + nb (n.testBit (2 + 16)) + nb (n.testBit (3 + 16)) + nb (n.testBit (4 + 16)) + nb (n.testBit (5 + 16)) + nb (n.testBit (6 + 16)) + nb (n.testBit (7 + 16)) + nb (n.testBit (0 + 24)) + nb (n.testBit (1 + 24)) + nb (n.testBit (2 + 24)) + nb (n.testBit (3 + 24)) + nb (n.testBit (4 + 24)) + nb (n.testBit (5 + 24)) + nb (n.testBit (6 + 24)) + nb (n.testBit (7 + 24)) := fun n => rfl
  rw [e, l0 0 (by decide), l0 1 (by decide), l0 2 (by decide), l0 3 (by decide), l0 4 (by decide), l0 5 (by decide), l0 6 (by decide), l0 7 (by decide), l1 0 (by decide), l1 1 (by decide), l1 2 (by decide), l1 3 (by decide), l1 4 (by decide), l1 5 (by decide), l1 6 (by decide), l1 7 (by decide), l2 0 (by decide), l2 1 (by decide), l2 2 (by decide), l2 3 (by decide), l2 4 (by decide), l2 5 (by decide), l2 6 (by decide), l2 7 (by decide), l3 0, l3 1, l3 2, l3 3, l3 4, l3 5, l3 6, l3 7]
  unfold p8
  omega
theorem pc_all {n : Nat} (hn : n < 2 ^ 32) : bs1 n ≤ n ∧ (n / 2 &&& 1431655765) ≤ n ∧ bs2 (bs1 n) + bs2 (bs1 n) / 16 < 2 ^ 32 ∧ (bs1 n &&& 858993459) + ((bs1 n / 4) &&& 858993459) < 2 ^ 32 ∧ bs4 (bs3 (bs2 (bs1 n))) < 2 ^ 32 ∧ bs5 (bs4 (bs3 (bs2 (bs1 n)))) < 2 ^ 32 ∧ bs5 (bs4 (bs3 (bs2 (bs1 n)))) &&& 63 = pc32 n := by
  obtain ⟨a, b, c, d, ha, hb, hc, hd, rfl⟩ : ∃ a b c d, a < 256 ∧ b < 256 ∧ c < 256 ∧ d < 256 ∧ n = m4 a b c d := ⟨n % 256, n / 256 % 256, n / 65536 % 256, n / 16777216, by omega, by omega, by omega, by omega, by unfold m4; omega⟩
  have e3 := bs_m ha hb hc hd
  have p1 := p8_le a; have p2 := p8_le b; have p3 := p8_le c; have p4 := p8_le d
  obtain ⟨a1, a2, -⟩ := bt3 a ha
  obtain ⟨b1, b2, -⟩ := bt3 b hb
  obtain ⟨c1, c2, -⟩ := bt3 c hc
  obtain ⟨d1, d2, -⟩ := bt3 d hd
  have e2 : bs2 (bs1 (m4 a b c d)) = m4 (f2 (f1 a)) (f2 (f1 b)) (f2 (f1 c)) (f2 (f1 d)) := by rw [(bs1_m ha hb hc hd).1, bs2_m (f1_lt ha) (f1_lt hb) (f1_lt hc) (f1_lt hd)]
  have l2 : bs2 (bs1 (m4 a b c d)) ≤ 1145324612 := by rw [e2]; unfold m4; omega
  have e5 : bs4 (m4 (p8 a) (p8 b) (p8 c) (p8 d)) = m4 (p8 a + p8 b) (p8 b + p8 c) (p8 c + p8 d) (p8 d) := by unfold bs4 m4; omega
  have e6 : bs5 (m4 (p8 a + p8 b) (p8 b + p8 c) (p8 c + p8 d) (p8 d)) = m4 (p8 a + p8 b + (p8 c + p8 d)) (p8 b + p8 c + p8 d) (p8 c + p8 d) (p8 d) := by unfold bs5 m4; omega
  refine ⟨Nat.sub_le _ _, (bs1_m ha hb hc hd).2, by omega, ?_, ?_, ?_, ?_⟩
  · have : bs2 (bs1 (m4 a b c d)) = (bs1 (m4 a b c d) &&& 858993459) + ((bs1 (m4 a b c d) / 4) &&& 858993459) := rfl
    omega
  · rw [e3, e5]; unfold m4; omega
  · rw [e3, e5, e6]; unfold m4; omega
  · rw [e3, e5, e6, pc_m ha hb hc, and63]; unfold m4; omega
/-- the int as a natural number of 32 bits -/
def uN (x : Int32) : Nat := x.toUInt32.toNat
theorem uN_lt (x : Int32) : uN x < 2 ^ 32 := UInt32.toNat_lt x.toUInt32
theorem uN_inj {x y : Int32} (h : uN x = uN y) : x = y := by
  have h1 : x.toUInt32 = y.toUInt32 := UInt32.toNat_inj.mp h
  have h2 := congrArg UInt32.toInt32 h1
  simpa using h2
theorem uN_and (x y : Int32) : uN (x &&& y) = uN x &&& uN y := by
  unfold uN
  rw [Int32.toUInt32_and, UInt32.toNat_and]
theorem uN_or (x y : Int32) : uN (x ||| y) = uN x ||| uN y := by
  unfold uN
  rw [Int32.toUInt32_or, UInt32.toNat_or]
theorem uN_add {x y : Int32} (h : uN x + uN y < 2 ^ 32) : uN (x + y) = uN x + uN y := by
  unfold uN at *
  rw [Int32.toUInt32_add, UInt32.toNat_add, Nat.mod_eq_of_lt h]
theorem uN_sub {x y : Int32} (h : uN y ≤ uN x) : uN (x - y) = uN x - uN y := by
  unfold uN at *
  rw [Int32.toUInt32_sub, UInt32.toNat_sub_of_le _ _ (UInt32.le_iff_toNat_le.mpr h)]
theorem uN_nI {n : Nat} (h : n < 2 ^ 31) : uN (nI n) = n := by
  unfold uN nI
  rw [show (Int32.ofNat n).toUInt32 = UInt32.ofNat n from rfl, UInt32.toNat_ofNat_of_lt' (show n < 4294967296 by omega)]
/-- the machine's shift of bits to the right -/
abbrev us (x y : Int32) : Int32 := (x.toUInt32 >>> (y.toUInt32 &&& Int32.toUInt32 31)).toInt32
theorem uN_us {x : Int32} {k : Nat} (hk : k < 32) : uN (us x (nI k)) = uN x / 2 ^ k := by
  have h1 : uN (us x (nI k)) = (x.toUInt32 >>> ((nI k).toUInt32 &&& Int32.toUInt32 31)).toNat := by
    unfold uN us
    rw [UInt32.toUInt32_toInt32]
  rw [h1, UInt32.toNat_shiftRight, UInt32.toNat_and]
  have h2 : (nI k).toUInt32.toNat = k := uN_nI (by omega)
  rw [h2, show (Int32.toUInt32 31).toNat = 31 from rfl]
  have h3 : k &&& 31 = k := by rw [show (31 : Nat) = 2 ^ 5 - 1 from rfl, Nat.and_two_pow_sub_one_eq_mod, Nat.mod_eq_of_lt hk]
  rw [h3, Nat.mod_eq_of_lt hk, Nat.shiftRight_eq_div_pow]
  rfl
set_option maxRecDepth 4000 in
theorem uN_sl : ∀ k, k < 32 → uN ((1 : Int32) <<< (nI k &&& 31)) = 2 ^ k := by decide +kernel
theorem bc_eq {x : Int32} {n : Nat} (h : uN x = n) : let y1 := x - (us x (nI 1) &&& nI 1431655765)
  let y2 := (y1 &&& nI 858993459) + (us y1 (nI 2) &&& nI 858993459)
  let y3 := (y2 + us y2 (nI 4)) &&& nI 252645135
  let y4 := y3 + us y3 (nI 8)
  let y5 := y4 + us y4 (nI 16)
  y5 &&& nI 63 = nI (pc32 n) := by
  intro y1 y2 y3 y4 y5
  subst h
  obtain ⟨h1, h2, h3, h4, h5, h6, h7⟩ := pc_all (uN_lt x)
  have e1 : uN (us x (nI 1) &&& nI 1431655765) = uN x / 2 &&& 1431655765 := by rw [uN_and, uN_us (by decide), uN_nI (by decide)]
  have g1 : uN y1 = bs1 (uN x) := by show uN (x - _) = _; rw [uN_sub (by rw [e1]; exact h2), e1]; rfl
  have e2 : uN (us y1 (nI 2) &&& nI 858993459) = bs1 (uN x) / 4 &&& 858993459 := by rw [uN_and, uN_us (by decide), uN_nI (by decide), g1]
  have e2' : uN (y1 &&& nI 858993459) = bs1 (uN x) &&& 858993459 := by rw [uN_and, uN_nI (by decide), g1]
  have g2 : uN y2 = bs2 (bs1 (uN x)) := by show uN (_ + _) = _; rw [uN_add (by rw [e2, e2']; exact h4), e2, e2']; rfl
  have e3 : uN (us y2 (nI 4)) = bs2 (bs1 (uN x)) / 16 := by rw [uN_us (by decide), g2]
  have g3 : uN y3 = bs3 (bs2 (bs1 (uN x))) := by show uN (_ &&& _) = _; rw [uN_and, uN_add (by rw [e3, g2]; exact h3), e3, g2, uN_nI (by decide)]; rfl
  have e4 : uN (us y3 (nI 8)) = bs3 (bs2 (bs1 (uN x))) / 256 := by rw [uN_us (by decide), g3]
  have g4 : uN y4 = bs4 (bs3 (bs2 (bs1 (uN x)))) := by show uN (_ + _) = _; rw [uN_add (by rw [e4, g3]; exact h5), e4, g3]; rfl
  have e5 : uN (us y4 (nI 16)) = bs4 (bs3 (bs2 (bs1 (uN x)))) / 65536 := by rw [uN_us (by decide), g4]
  have g5 : uN y5 = bs5 (bs4 (bs3 (bs2 (bs1 (uN x))))) := by show uN (_ + _) = _; rw [uN_add (by rw [e5, g4]; exact h6), e5, g4]; rfl
  apply uN_inj
  have h8 : pc32 (uN x) < 2 ^ 31 := by rw [← h7, and63]; omega
  rw [uN_and, g5, uN_nI (by decide), h7, uN_nI h8]
