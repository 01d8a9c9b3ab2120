/-! loops that count up -/
theorem up1 {F : (Int32 → Prop) → Int32 → Prop} (e : Nat) (he : e < 2147483647) (I : Nat → Prop) (i0 : Nat) (hi : i0 ≤ e) (h0 : I i0) (hx : ∀ rec, I e → F rec (nI e)) (hs : ∀ rec k, k < e → I k → (I (k + 1) → rec (nI k + 1)) → F rec (nI k)) : ∃ n, fx1 F n (nI i0) := by
  refine fx1_go (fun v => ∃ k, k ≤ e ∧ v = nI k ∧ I k) (fun v => e - v.toNatClampNeg) ?_ _ ⟨i0, hi, rfl, h0⟩
  rintro rec v ⟨k, hk, rfl, hI⟩ hrec
  rcases Nat.lt_or_ge k e with q | q
  · exact hs rec k q hI (fun h => hrec _ ⟨k + 1, by omega, nI_1 k, h⟩ (by rw [nI_1, nI_clamp (by omega), nI_clamp (by omega)]; omega))
  · have : k = e := by omega
    subst this
    exact hx rec hI
theorem up2 {A : Type} {F : (A → Int32 → Prop) → A → Int32 → Prop} (e : Nat) (he : e < 2147483647) (I : Nat → A → Prop) (i0 : Nat) (a : A) (hi : i0 ≤ e) (h0 : I i0 a) (hx : ∀ rec a, I e a → F rec a (nI e)) (hs : ∀ rec k a, k < e → I k a → (∀ b, I (k + 1) b → rec b (nI k + 1)) → F rec a (nI k)) : ∃ n, fx2 F n a (nI i0) := by
  refine fx2_go (fun b v => ∃ k, k ≤ e ∧ v = nI k ∧ I k b) (fun _ v => e - v.toNatClampNeg) ?_ _ _ ⟨i0, hi, rfl, h0⟩
  rintro rec b v ⟨k, hk, rfl, hI⟩ hrec
  rcases Nat.lt_or_ge k e with q | q
  · exact hs rec k b q hI (fun b' h => hrec _ _ ⟨k + 1, by omega, nI_1 k, h⟩ (by rw [nI_1, nI_clamp (by omega), nI_clamp (by omega)]; omega))
  · have : k = e := by omega
    subst this
    exact hx rec b hI
theorem up2i {A : Type} {F : (Int32 → A → Prop) → Int32 → A → Prop} (e : Nat) (he : e < 2147483647) (I : Nat → A → Prop) (i0 : Nat) (a : A) (hi : i0 ≤ e) (h0 : I i0 a) (hx : ∀ rec a, I e a → F rec (nI e) a) (hs : ∀ rec k a, k < e → I k a → (∀ b, I (k + 1) b → rec (nI k + 1) b) → F rec (nI k) a) : ∃ n, fx2 F n (nI i0) a := by
  refine fx2_go (fun v b => ∃ k, k ≤ e ∧ v = nI k ∧ I k b) (fun v _ => e - v.toNatClampNeg) ?_ _ _ ⟨i0, hi, rfl, h0⟩
  rintro rec v b ⟨k, hk, rfl, hI⟩ hrec
  rcases Nat.lt_or_ge k e with q | q
  · exact hs rec k b q hI (fun b' h => hrec _ _ ⟨k + 1, by omega, nI_1 k, h⟩ (by rw [nI_1, nI_clamp (by omega), nI_clamp (by omega)]; omega))
  · have : k = e := by omega
    subst this
    exact hx rec b hI
theorem up3i {A B : Type} {F : (Int32 → A → B → Prop) → Int32 → A → B → Prop} (e : Nat) (he : e < 2147483647) (I : Nat → A → B → Prop) (i0 : Nat) (a : A) (b : B) (hi : i0 ≤ e) (h0 : I i0 a b) (hx : ∀ rec a b, I e a b → F rec (nI e) a b) (hs : ∀ rec k a b, k < e → I k a b → (∀ a' b', I (k + 1) a' b' → rec (nI k + 1) a' b') → F rec (nI k) a b) : ∃ n, fx3 F n (nI i0) a b := by
  refine fx3_go (fun v a b => ∃ k, k ≤ e ∧ v = nI k ∧ I k a b) (fun v _ _ => e - v.toNatClampNeg) ?_ _ _ _ ⟨i0, hi, rfl, h0⟩
  rintro rec v a b ⟨k, hk, rfl, hI⟩ hrec
  rcases Nat.lt_or_ge k e with q | q
  · exact hs rec k a b q hI (fun a' b' h => hrec _ _ _ ⟨k + 1, by omega, nI_1 k, h⟩ (by rw [nI_1, nI_clamp (by omega), nI_clamp (by omega)]; omega))
  · have : k = e := by omega
    subst this
    exact hx rec a b hI
theorem up4 {A B C : Type} {F : (A → Int32 → B → C → Prop) → A → Int32 → B → C → Prop} (e : Nat) (he : e < 2147483647) (I : Nat → A → B → C → Prop) (i0 : Nat) (a : A) (b : B) (c : C) (hi : i0 ≤ e) (h0 : I i0 a b c) (hx : ∀ rec a b c, I e a b c → F rec a (nI e) b c) (hs : ∀ rec k a b c, k < e → I k a b c → (∀ a' b' c', I (k + 1) a' b' c' → rec a' (nI k + 1) b' c') → F rec a (nI k) b c) : ∃ n, fx4 F n a (nI i0) b c := by
  refine fx4_go (fun a v b c => ∃ k, k ≤ e ∧ v = nI k ∧ I k a b c) (fun _ v _ _ => e - v.toNatClampNeg) ?_ _ _ _ _ ⟨i0, hi, rfl, h0⟩
  rintro rec a v b c ⟨k, hk, rfl, hI⟩ hrec
  rcases Nat.lt_or_ge k e with q | q
  · exact hs rec k a b c q hI (fun a' b' c' h => hrec _ _ _ _ ⟨k + 1, by omega, nI_1 k, h⟩ (by rw [nI_1, nI_clamp (by omega), nI_clamp (by omega)]; omega))
  · have : k = e := by omega
    subst this
    exact hx rec a b c hI
theorem lpE {e : Nat} {A B : Prop} (h : A) : (nI e ≤ nI e → A) ∧ (¬ nI e ≤ nI e → B) := ⟨fun _ => h, fun q => absurd (Int32.le_refl _) q⟩
theorem lpS {e k : Nat} (hk : k < e) (he : e < 2 ^ 31) {A B : Prop} (h : B) : (nI e ≤ nI k → A) ∧ (¬ nI e ≤ nI k → B) := ⟨fun q => absurd q (nI_ge hk he), fun _ => h⟩
/-- the least k below n with P, else n; as the programs tell it -/
def pFst (P : Nat → Bool) : Nat → Nat
  | 0 => 0
  | n + 1 => if pFst P n < n then pFst P n else if P n = true then n else n + 1
def rFst (P : Nat → Bool) (n : Nat) : Int32 := if pFst P n < n then nI (pFst P n) else -1
theorem pFst_hit {P : Nat → Bool} {k : Nat} (hk : P k = true) (hno : ∀ j, j < k → ¬ P j = true) : ∀ n, k < n → pFst P n = k
  | 0, h => absurd h (Nat.not_lt_zero _)
  | n + 1, h => by
    simp only [pFst]
    rcases Nat.lt_or_ge k n with q | q
    · rw [pFst_hit hk hno n q, if_pos q]
    · have e : k = n := by omega
      subst e
      have : ∀ m, m ≤ k → pFst P m = m := by
        intro m
        induction m with
        | zero => intro _; rfl
        | succ m ih => intro hm; simp only [pFst]; rw [ih (by omega), if_neg (Nat.lt_irrefl _), if_neg (hno m (by omega))]
      rw [this k (Nat.le_refl _), if_neg (Nat.lt_irrefl _), if_pos hk]
theorem pFst_none {P : Nat → Bool} : ∀ n, (∀ j, j < n → ¬ P j = true) → pFst P n = n
  | 0, _ => rfl
  | n + 1, h => by
    simp only [pFst]
    rw [pFst_none n (fun j hj => h j (by omega)), if_neg (Nat.lt_irrefl _), if_neg (h n (by omega))]
theorem rFst_hit {P : Nat → Bool} {k n : Nat} (hk : P k = true) (hno : ∀ j, j < k → ¬ P j = true) (h : k < n) : rFst P n = nI k := by
  unfold rFst
  rw [pFst_hit hk hno n h, if_pos h]
theorem rFst_none {P : Nat → Bool} {n : Nat} (h : ∀ j, j < n → ¬ P j = true) : rFst P n = -1 := by
  unfold rFst
  rw [pFst_none n h, if_neg (Nat.lt_irrefl _)]
/-- the greatest of the first n, 0 if there is none -/
def pMax (f : Nat → Nat) : Nat → Nat
  | 0 => 0
  | n + 1 => if pMax f n < f n then f n else pMax f n
theorem pMax_le {f : Nat → Nat} {b : Nat} : ∀ n, (∀ j, j < n → f j ≤ b) → pMax f n ≤ b
  | 0, _ => Nat.zero_le _
  | n + 1, h => by
    have h1 := pMax_le n (fun j hj => h j (by omega))
    have h2 := h n (by omega)
    simp only [pMax]
    split <;> omega
