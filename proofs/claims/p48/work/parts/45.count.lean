/-! HOW MANY: Integer.bitCount and the reference's many count the bits of a set -/
theorem bt_nI (a i : Nat) : bt (nI a) i = (decide (i < 32) && a.testBit i) := BitVec.getLsbD_ofNat 32 a i
theorem nI_and (a b : Nat) : nI a &&& nI b = nI (a &&& b) := b_ext (fun i hi => by rw [b_and, bt_nI, bt_nI, bt_nI, Nat.testBit_and, decide_eq_true hi, Bool.true_and, Bool.true_and, Bool.true_and])
theorem nI_shr {a k : Nat} (ha : a < 2 ^ 31) (hk : k < 32) : ((nI a).toUInt32 >>> ((nI k).toUInt32 &&& Int32.toUInt32 31)).toInt32 = nI (a / 2 ^ k) := b_ext (fun i hi => by
  rw [b_ushr k hk, bt_nI, bt_nI, Nat.testBit_div_two_pow, Nat.add_comm k i, decide_eq_true hi, Bool.true_and]
  by_cases z : i + k < 32
  · rw [decide_eq_true z, Bool.true_and]
  · have h : a < 2 ^ (i + k) := Nat.lt_of_lt_of_le ha (Nat.pow_le_pow_right (by decide) (by omega))
    rw [decide_eq_false z, Bool.false_and, Nat.testBit_lt_two_pow h])
theorem l_split {p m q M : Nat} (hp : p < 2 ^ 8) (hm : m < 2 ^ 8) : (2 ^ 8 * q + p) &&& (2 ^ 8 * M + m) = 2 ^ 8 * (q &&& M) + (p &&& m) := by
  have hpm : (p &&& m) < 2 ^ 8 := Nat.and_lt_two_pow p hm
  refine Nat.eq_of_testBit_eq (fun j => ?_)
  rw [Nat.testBit_and, Nat.testBit_two_pow_mul_add q hp j, Nat.testBit_two_pow_mul_add M hm j, Nat.testBit_two_pow_mul_add (q &&& M) hpm j]
  split
  · rw [Nat.testBit_and]
  · rw [Nat.testBit_and]
theorem l_split2 {p m q M : Nat} (hp : p < 256) (hm : m < 256) : (256 * q + p) &&& (256 * M + m) = 256 * (q &&& M) + (p &&& m) := l_split hp hm
theorem t1_tab : ∀ p, p < 256 → (∀ e, e < 2 → ((128 * e + p / 2) &&& 85) = (p / 2 &&& 85)) ∧ (p / 2 &&& 85) ≤ p := by decide +kernel
theorem t2_tab : ∀ b, b < 256 → ∀ e, e < 4 → ((64 * e + b / 4) &&& 51) = (b / 4 &&& 51) := by decide +kernel
theorem t3_tab : ∀ b, b < 69 → ∀ e, e < 5 → ((16 * e + b + b / 16) &&& 15) = ((b + b / 16) &&& 15) := by decide +kernel
theorem nc1_split {p q M : Nat} (hp : p < 256) : (256 * q + p) - ((256 * q + p) / 2 &&& (256 * M + 85)) = 256 * (q - (q / 2 &&& M)) + (p - (p / 2 &&& 85)) := by
  have e : (256 * q + p) / 2 = 256 * (q / 2) + (128 * (q % 2) + p / 2) := by omega
  have h1 : (q / 2 &&& M) ≤ q := Nat.le_trans Nat.and_le_left (Nat.div_le_self q 2)
  obtain ⟨h2, h3⟩ := t1_tab p hp
  have h2 := h2 (q % 2) (by omega)
  rw [e, l_split2 (by omega) (by decide), h2]
  omega
theorem nc2_split {b a M : Nat} (hb : b < 256) : ((256 * a + b) &&& (256 * M + 51)) + ((256 * a + b) / 4 &&& (256 * M + 51)) = 256 * ((a &&& M) + (a / 4 &&& M)) + ((b &&& 51) + (b / 4 &&& 51)) := by
  have e : (256 * a + b) / 4 = 256 * (a / 4) + (64 * (a % 4) + b / 4) := by omega
  have h2 := t2_tab b hb (a % 4) (by omega)
  rw [l_split2 hb (by decide), e, l_split2 (by omega) (by decide), h2]
  omega
theorem nc3_split {b a M : Nat} (hb : b ≤ 68) (ha : a % 16 ≤ 4) : ((256 * a + b) + (256 * a + b) / 16 &&& (256 * M + 15)) = 256 * (a + a / 16 &&& M) + (b + b / 16 &&& 15) := by
  have e : (256 * a + b) + (256 * a + b) / 16 = 256 * (a + a / 16) + (16 * (a % 16) + b + b / 16) := by omega
  have h2 := t3_tab b (by omega) (a % 16) (by omega)
  rw [e, l_split2 (by omega) (by decide), h2]
def nT1 (p : Nat) : Nat := p - (p / 2 &&& 85)
def nT2 (b : Nat) : Nat := (b &&& 51) + (b / 4 &&& 51)
def nT3 (b : Nat) : Nat := (b + b / 16) &&& 15
theorem nT_tab : ∀ p, p < 256 → nT1 p < 256 ∧ nT2 (nT1 p) ≤ 68 ∧ nT2 (nT1 p) % 16 ≤ 4 ∧ nT3 (nT2 (nT1 p)) = pCnt (fun i => p.testBit i) 8 := by decide +kernel
theorem nT_top : ∀ p, p < 16 → p - (p / 2 &&& 21845) = nT1 p ∧ (nT1 p &&& 13107) + (nT1 p / 4 &&& 13107) = nT2 (nT1 p) ∧ (nT2 (nT1 p) + nT2 (nT1 p) / 16 &&& 3855) = nT3 (nT2 (nT1 p)) ∧ pCnt (fun i => p.testBit i) 8 = pCnt (fun i => p.testBit i) 4 := by decide +kernel
theorem pCnt_addn (f : Nat → Bool) (n : Nat) : ∀ m, pCnt f (n + m) = pCnt f n + pCnt (fun i => f (n + i)) m
  | 0 => rfl
  | m + 1 => by
    have e := pCnt_addn f n m
    show pCnt f ((n + m) + 1) = _
    simp only [pCnt]
    omega
theorem pCnt_bits {a b c : Nat} (ha : a < 256) (hb : b < 256) : pCnt (fun i => (256 * (256 * c + b) + a).testBit i) 20 = pCnt (fun i => a.testBit i) 8 + pCnt (fun i => b.testBit i) 8 + pCnt (fun i => c.testBit i) 4 := by
  have e1 : ∀ j, (256 * (256 * c + b) + a).testBit j = if j < 8 then a.testBit j else (256 * c + b).testBit (j - 8) := fun j => Nat.testBit_two_pow_mul_add (i := 8) (256 * c + b) ha j
  have e2 : ∀ j, (256 * c + b).testBit j = if j < 8 then b.testBit j else c.testBit (j - 8) := fun j => Nat.testBit_two_pow_mul_add (i := 8) c hb j
  rw [pCnt_addn _ 8 12, pCnt_addn _ 8 4]
  have k1 : pCnt (fun i => (256 * (256 * c + b) + a).testBit i) 8 = pCnt (fun i => a.testBit i) 8 := pCnt_ext (fun v hv => by rw [e1, if_pos hv])
  have k2 : pCnt (fun i => (256 * (256 * c + b) + a).testBit (8 + i)) 8 = pCnt (fun i => b.testBit i) 8 := pCnt_ext (fun v hv => by rw [e1, if_neg (by omega), e2, if_pos (by omega), Nat.add_sub_cancel_left])
  have k3 : pCnt (fun i => (256 * (256 * c + b) + a).testBit (8 + (8 + i))) 4 = pCnt (fun i => c.testBit i) 4 := pCnt_ext (fun v hv => by rw [e1, if_neg (by omega), e2, if_neg (by omega), Nat.add_sub_cancel_left, Nat.add_sub_cancel_left])
  rw [k1, k2, k3, Nat.add_assoc]
def bSh (x k : Int32) : Int32 := (x.toUInt32 >>> (k.toUInt32 &&& Int32.toUInt32 31)).toInt32
def bC1 (x : Int32) : Int32 := x - (bSh x 1 &&& 1431655765)
def bC2 (y : Int32) : Int32 := (y &&& 858993459) + (bSh y 2 &&& 858993459)
def bC3 (z : Int32) : Int32 := (z + bSh z 4) &&& 252645135
def bC4 (w : Int32) : Int32 := w + bSh w 8
def bC5 (w : Int32) : Int32 := (w + bSh w 16) &&& 63
theorem bC_nI {x : Nat} (hx : x < 2 ^ 20) : bC5 (bC4 (bC3 (bC2 (bC1 (nI x))))) = nI (pCnt (fun i => x.testBit i) 20) := by
  have hx : x < 1048576 := hx
  obtain ⟨a, b, c, rfl, ha, hb, hc⟩ : ∃ a b c, x = 256 * (256 * c + b) + a ∧ a < 256 ∧ b < 256 ∧ c < 16 := ⟨x % 256, x / 256 % 256, x / 65536, by omega, by omega, by omega, by omega⟩
  obtain ⟨a1, a2, a3, a4⟩ := nT_tab a ha
  obtain ⟨b1, b2, b3, b4⟩ := nT_tab b hb
  obtain ⟨c1, c2, c3, c4⟩ := nT_tab c (by omega)
  obtain ⟨d1, d2, d3, d4⟩ := nT_top c hc
  have p8 : ∀ f : Nat → Bool, pCnt f 8 ≤ 8 := fun f => pCnt_top f 8
  have pa := p8 (fun i => a.testBit i)
  have pb := p8 (fun i => b.testBit i)
  have pc := p8 (fun i => c.testBit i)
  rw [← a4] at pa
  rw [← b4] at pb
  rw [← c4] at pc
  have s1 : (256 * (256 * c + b) + a) - ((256 * (256 * c + b) + a) / 2 ^ 1 &&& 1431655765) = 256 * (256 * nT1 c + nT1 b) + nT1 a := by
    have e : (256 * (256 * c + b) + a) - ((256 * (256 * c + b) + a) / 2 &&& (256 * (256 * 21845 + 85) + 85)) = 256 * (256 * nT1 c + nT1 b) + nT1 a := by
      rw [nc1_split ha, nc1_split hb, d1]; rfl
    exact e
  have l1 : (256 * (256 * c + b) + a) / 2 ^ 1 &&& 1431655765 ≤ 256 * (256 * c + b) + a := Nat.le_trans Nat.and_le_left (Nat.div_le_self _ _)
  have e1 : bC1 (nI (256 * (256 * c + b) + a)) = nI (256 * (256 * nT1 c + nT1 b) + nT1 a) := by
    show nI (256 * (256 * c + b) + a) - (((nI (256 * (256 * c + b) + a)).toUInt32 >>> ((nI 1).toUInt32 &&& Int32.toUInt32 31)).toInt32 &&& nI 1431655765) = _
    rw [nI_shr (by omega) (by decide), nI_and, i_subn l1, s1]
  have ht : nT1 c ≤ c := Nat.sub_le _ _
  have s2 : ((256 * (256 * nT1 c + nT1 b) + nT1 a) &&& 858993459) + ((256 * (256 * nT1 c + nT1 b) + nT1 a) / 2 ^ 2 &&& 858993459) = 256 * (256 * nT2 (nT1 c) + nT2 (nT1 b)) + nT2 (nT1 a) := by
    have e : ((256 * (256 * nT1 c + nT1 b) + nT1 a) &&& (256 * (256 * 13107 + 51) + 51)) + ((256 * (256 * nT1 c + nT1 b) + nT1 a) / 4 &&& (256 * (256 * 13107 + 51) + 51)) = 256 * (256 * nT2 (nT1 c) + nT2 (nT1 b)) + nT2 (nT1 a) := by
      rw [nc2_split a1, nc2_split b1, d2]; rfl
    exact e
  have e2 : bC2 (nI (256 * (256 * nT1 c + nT1 b) + nT1 a)) = nI (256 * (256 * nT2 (nT1 c) + nT2 (nT1 b)) + nT2 (nT1 a)) := by
    show (nI (256 * (256 * nT1 c + nT1 b) + nT1 a) &&& nI 858993459) + (((nI (256 * (256 * nT1 c + nT1 b) + nT1 a)).toUInt32 >>> ((nI 2).toUInt32 &&& Int32.toUInt32 31)).toInt32 &&& nI 858993459) = _
    rw [nI_shr (by omega) (by decide), nI_and, nI_and, nI_add, s2]
  have s3 : ((256 * (256 * nT2 (nT1 c) + nT2 (nT1 b)) + nT2 (nT1 a)) + (256 * (256 * nT2 (nT1 c) + nT2 (nT1 b)) + nT2 (nT1 a)) / 2 ^ 4 &&& 252645135) = 256 * (256 * nT3 (nT2 (nT1 c)) + nT3 (nT2 (nT1 b))) + nT3 (nT2 (nT1 a)) := by
    have e : ((256 * (256 * nT2 (nT1 c) + nT2 (nT1 b)) + nT2 (nT1 a)) + (256 * (256 * nT2 (nT1 c) + nT2 (nT1 b)) + nT2 (nT1 a)) / 16 &&& (256 * (256 * 3855 + 15) + 15)) = 256 * (256 * nT3 (nT2 (nT1 c)) + nT3 (nT2 (nT1 b))) + nT3 (nT2 (nT1 a)) := by
      rw [nc3_split a2 (by omega), nc3_split b2 c3, d3]; rfl
    exact e
  have e3 : bC3 (nI (256 * (256 * nT2 (nT1 c) + nT2 (nT1 b)) + nT2 (nT1 a))) = nI (256 * (256 * nT3 (nT2 (nT1 c)) + nT3 (nT2 (nT1 b))) + nT3 (nT2 (nT1 a))) := by
    show (nI (256 * (256 * nT2 (nT1 c) + nT2 (nT1 b)) + nT2 (nT1 a)) + ((nI (256 * (256 * nT2 (nT1 c) + nT2 (nT1 b)) + nT2 (nT1 a))).toUInt32 >>> ((nI 4).toUInt32 &&& Int32.toUInt32 31)).toInt32) &&& nI 252645135 = _
    rw [nI_shr (by omega) (by decide), nI_add, nI_and, s3]
  rw [e1, e2, e3, pCnt_bits ha hb, ← a4, ← b4, ← d4, ← c4]
  generalize nT3 (nT2 (nT1 a)) = y0 at *
  generalize nT3 (nT2 (nT1 b)) = y1 at *
  generalize nT3 (nT2 (nT1 c)) = y2 at *
  have e4 : bC4 (nI (256 * (256 * y2 + y1) + y0)) = nI (256 * (256 * y2 + y1) + y0 + (256 * y2 + y1)) := by
    show nI (256 * (256 * y2 + y1) + y0) + ((nI (256 * (256 * y2 + y1) + y0)).toUInt32 >>> ((nI 8).toUInt32 &&& Int32.toUInt32 31)).toInt32 = _
    rw [nI_shr (by omega) (by decide), nI_add]
    have : (256 * (256 * y2 + y1) + y0) / 2 ^ 8 = 256 * y2 + y1 := by
      show (256 * (256 * y2 + y1) + y0) / 256 = 256 * y2 + y1
      omega
    rw [this]
  rw [e4]
  show (nI (256 * (256 * y2 + y1) + y0 + (256 * y2 + y1)) + ((nI (256 * (256 * y2 + y1) + y0 + (256 * y2 + y1))).toUInt32 >>> ((nI 16).toUInt32 &&& Int32.toUInt32 31)).toInt32) &&& nI 63 = _
  rw [nI_shr (by omega) (by decide), nI_add, nI_and]
  have e5 : (256 * (256 * y2 + y1) + y0 + (256 * y2 + y1)) / 2 ^ 16 = y2 := by
    show (256 * (256 * y2 + y1) + y0 + (256 * y2 + y1)) / 65536 = y2
    omega
  rw [e5]
  have e6 : ((256 * (256 * y2 + y1) + y0 + (256 * y2 + y1) + y2) &&& 63) = y0 + y1 + y2 := by
    have h := Nat.and_two_pow_sub_one_eq_mod (256 * (256 * y2 + y1) + y0 + (256 * y2 + y1) + y2) 6
    have h : ((256 * (256 * y2 + y1) + y0 + (256 * y2 + y1) + y2) &&& 63) = (256 * (256 * y2 + y1) + y0 + (256 * y2 + y1) + y2) % 64 := h
    rw [h]
    omega
  rw [e6]
/-- a set of places: its number -/
theorem set_nI {x : Int32} (h : ∀ u, bt x u = true → u < 20) : ∃ N, N < 2 ^ 20 ∧ x = nI N ∧ ∀ i, N.testBit i = bt x i := by
  refine ⟨x.toBitVec.toNat, Nat.lt_pow_two_of_testBit _ (fun i hi => ?_), b_ext (fun i hi => ?_), fun i => rfl⟩
  · show bt x i = false
    cases hb : bt x i
    · rfl
    · have := h i hb
      omega
  · rw [bt_nI, decide_eq_true hi, Bool.true_and]
    rfl
def sCnt (x : Int32) : Nat := pCnt (fun u => bt x u) 20
theorem sCnt_le (x : Int32) : sCnt x ≤ 20 := pCnt_top _ _
theorem bitCount_ok {x : Int32} {post : Int32 → Prop} (h : ∀ u, bt x u = true → u < 20) (hp : post (nI (sCnt x))) : wp_J6_bitCount_0f7a4 x post := by
  obtain ⟨N, hN, e, hb⟩ := set_nI h
  have q := bC_nI hN
  rw [← e] at q
  have q2 : pCnt (fun i => N.testBit i) 20 = sCnt x := pCnt_ext (fun v _ => by rw [hb v])
  rw [q2] at q
  rw [← q] at hp
  exact hp
theorem i_addor {x y : Int32} (h : x &&& y = 0) : x + y = x ||| y := Int32.toBitVec_inj.mp (by
  rw [Int32.toBitVec_add, Int32.toBitVec_or]
  exact BitVec.add_eq_or_of_and_eq_zero _ _ (by rw [← Int32.toBitVec_and, h]; rfl))
/-- the lowest place of a set taken out -/
theorem b_low {x : Int32} (h : ∀ u, bt x u = true → u < 20) (hne : ¬ x = 0) : ∃ k, bt x k = true ∧ ∀ u, bt (x &&& (x - 1)) u = true ↔ bt x u = true ∧ u ≠ k := by
  have hex : ∃ k, bt x k = true ∧ ∀ j, j < k → ¬ bt x j = true := by
    obtain ⟨u, hu⟩ := b_ne0 hne
    have key : ∀ n, (∃ k, k ≤ n ∧ bt x k = true) → ∃ k, bt x k = true ∧ ∀ j, j < k → ¬ bt x j = true := by
      intro n
      induction n with
      | zero => rintro ⟨k, hk, q⟩; exact ⟨k, q, fun j hj => by omega⟩
      | succ n ih =>
        rintro ⟨k, hk, q⟩
        by_cases z : ∃ k, k ≤ n ∧ bt x k = true
        · exact ih z
        · exact ⟨k, q, fun j hj y => z ⟨j, by omega, y⟩⟩
    exact key u ⟨u, Nat.le_refl _, hu⟩
  obtain ⟨k, hk, hlow⟩ := hex
  have hk20 := h k hk
  obtain ⟨P, hP⟩ : ∃ P, P = ((1 : Int32) <<< (nI k &&& 31)) := ⟨_, rfl⟩
  have hPb : ∀ u, bt P u = decide (u = k) := fun u => by rw [hP]; exact b_one (by omega) u
  have hQb : ∀ u, bt (P - 1) u = decide (u < k) := fun u => by rw [hP]; exact b_all (by omega) u
  have hyb : ∀ u, bt (x &&& (P ^^^ (-1 : Int32))) u = true ↔ bt x u = true ∧ u ≠ k := fun u => by
    rw [b_diff, hPb, decide_eq_true_eq]
  have e1 : (x &&& (P ^^^ (-1 : Int32))) &&& P = 0 := b_and0.mpr (fun u a b => by
    rw [hPb, decide_eq_true_eq] at b
    exact ((hyb u).mp a).2 b)
  have e2 : (x &&& (P ^^^ (-1 : Int32))) &&& (P - 1) = 0 := b_and0.mpr (fun u a b => by
    rw [hQb, decide_eq_true_eq] at b
    exact hlow u b ((hyb u).mp a).1)
  have e3 : x = (x &&& (P ^^^ (-1 : Int32))) + P := by
    rw [i_addor e1]
    refine b_ext (fun u _ => ?_)
    have : bt ((x &&& (P ^^^ (-1 : Int32))) ||| P) u = true ↔ bt x u = true := by
      rw [b_orI, hyb, hPb, decide_eq_true_eq]
      constructor
      · rintro (a | a)
        · exact a.1
        · rw [a]; exact hk
      · intro a
        by_cases z : u = k
        · exact Or.inr z
        · exact Or.inl ⟨a, z⟩
    cases hb : bt x u
    · cases hc : bt ((x &&& (P ^^^ (-1 : Int32))) ||| P) u
      · rfl
      · rw [hb] at this; exact absurd (this.mp hc) (by decide)
    · exact (this.mpr hb).symm
  have e4 : x - 1 = (x &&& (P ^^^ (-1 : Int32))) ||| (P - 1) := by
    rw [← i_addor e2, Int32.sub_eq_add_neg P, ← Int32.add_assoc, ← e3, ← Int32.sub_eq_add_neg]
  refine ⟨k, hk, fun u => ?_⟩
  rw [b_andI, e4, b_orI, hyb, hQb, decide_eq_true_eq]
  constructor
  · rintro ⟨a, b | b⟩
    · exact b
    · exact absurd a (hlow u b)
  · rintro ⟨a, b⟩
    exact ⟨a, Or.inl ⟨a, b⟩⟩
