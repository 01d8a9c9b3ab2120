/-! the reference's solved(): the least measure that no step passes -/
def mPot (T : Nat) (ms : Nat → Nat) : Nat → Nat
  | 0 => 0
  | k + 1 => mPot T ms k + (T - ms k)
theorem mPot_le {T : Nat} {ms ms' : Nat → Nat} : ∀ n, (∀ u, u < n → ms u ≤ ms' u) → mPot T ms' n ≤ mPot T ms n
  | 0, _ => Nat.le_refl _
  | n + 1, h => by
    have h1 := mPot_le (T := T) (ms := ms) (ms' := ms') n (fun u hu => h u (by omega))
    have h2 := h n (by omega)
    simp only [mPot]
    omega
theorem mPot_lt {T : Nat} {ms ms' : Nat → Nat} : ∀ n, (∀ u, u < n → ms u ≤ ms' u) → (∃ u, u < n ∧ ms u < ms' u ∧ ms' u ≤ T) → mPot T ms' n < mPot T ms n
  | 0, _, ⟨u, hu, _⟩ => absurd hu (Nat.not_lt_zero _)
  | n + 1, h, ⟨u, hu, h1, h2⟩ => by
    simp only [mPot]
    rcases Nat.lt_or_ge u n with q | q
    · have h3 := mPot_lt (T := T) (ms := ms) (ms' := ms') n (fun u hu => h u (by omega)) ⟨u, q, h1, h2⟩
      have h4 := h n (by omega)
      omega
    · have e : u = n := by omega
      subst e
      have h3 := mPot_le (T := T) (ms := ms) (ms' := ms') u (fun u hu => h u (by omega))
      omega
theorem mPot_congr {T : Nat} {ms ms' : Nat → Nat} (n : Nat) (h : ∀ u, u < n → ms u = ms' u) : mPot T ms n = mPot T ms' n :=
  Nat.le_antisymm (mPot_le n fun u hu => Nat.le_of_eq (h u hu).symm) (mPot_le n fun u hu => Nat.le_of_eq (h u hu))
/-- a measure that no step passes, or the top -/
def mFix (cnt : Nat → Nat) (ow ca : Nat → Nat) (E : Nat → Nat → Prop) (μ : Nat → Nat) : Prop :=
  (∀ v, μ v ≤ mW cnt 5) ∧ ∀ v, (ow v = 0 → (∃ w, E v w ∧ mOv cnt (ca v) (μ w) ≤ μ v) ∨ μ v = mW cnt 5) ∧ (ow v ≠ 0 → ∀ w, E v w → mOv cnt (ca v) (μ w) ≤ μ v ∨ μ v = mW cnt 5)
theorem mLf_le {cnt ms μ : Nat → Nat} {ow ca : Nat → Nat} {E : Nat → Nat → Prop} {n v L : Nat} (hE : ∀ v w, E v w → w < n) (hL : L ≤ mW cnt 5) (h : mLf cnt ms ow ca E v L) (hf : mFix cnt ow ca E μ) (hm : ∀ u, u < n → ms u ≤ μ u) : L ≤ μ v := by
  obtain ⟨f1, f2⟩ := hf
  by_cases q : ow v = 0
  · rcases (f2 v).1 q with ⟨w, a, b⟩ | e
    · exact Nat.le_trans ((h.1 q).1 w a) (Nat.le_trans (mOv_mono (hm w (hE v w a)) (f1 w)) b)
    · omega
  · rcases (h.2 q).2 with ⟨w, a, b⟩ | ⟨-, e⟩
    · rcases (f2 v).2 q w a with c | e
      · rw [b]
        exact Nat.le_trans (mOv_mono (hm w (hE v w a)) (f1 w)) c
      · omega
    · omega
