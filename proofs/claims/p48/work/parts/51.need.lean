/-! neededMoves, keyPlace: both sides -/
noncomputable def ndF (pl mv : List (Nat × Nat)) (k : Nat) : Bool := pD (¬ ∀ u, (gW pl mv (lvBut k) 0 u ↔ gW pl mv allL 0 u))
noncomputable def ndV (pl mv : List (Nat × Nat)) : Int32 := nI (pCnt (ndF pl mv) mv.length)
theorem nd_eq {pl mv : List (Nat × Nat)} {k : Nat} {r z : Int32} (hr : ∀ u, bt r u = true ↔ gW pl mv (lvBut k) 0 u) (hz : ∀ u, bt z u = true ↔ gW pl mv allL 0 u) : (r = z → ndF pl mv k = false) ∧ (¬ r = z → ndF pl mv k = true) := by
  refine ⟨fun e => pD_f.mpr (fun q => q (fun u => by rw [← hr u, ← hz u, e])), fun e => pD_t.mpr (fun q => e (b_same hr (fun u => by rw [hz u, q u])))⟩
theorem gW_gWin {pl mv : List (Nat × Nat)} {i u : Nat} : gW pl mv allL i u ↔ u < pl.length ∧ gWin pl mv i u := by
  unfold gW gWin
  rw [gL_all]
theorem nd_loser {pl mv : List (Nat × Nat)} {k : Nat} (hg : gOk0 pl mv) (hk : k < mv.length) (h : gW pl mv allL (1 - lA pl (lA mv k)) (lA mv k)) : ndF pl mv k = false := by
  refine pD_f.mpr (fun q => q (fun u => ?_))
  by_cases hu : u < pl.length
  · have e : gL mv (lvBut k) = fun v w => gEd mv v w ∧ ¬ (v = lA mv k ∧ w = lB mv k) := funext fun v => funext fun w => propext (gL_but hg.2.2.2.2 hk)
    have := p_loser (n := pl.length) (C := 10) (p := lA mv k) (ow := lA pl) (ca := lB pl) (E := gEd mv) (E' := fun v w => gEd mv v w ∧ ¬ (v = lA mv k ∧ w = lB mv k)) (fun v => (gOk0_ow hg v).1) (fun v => (gOk0_ow hg v).2) (fun v w y => gEd_lt hg y) (fun v w y => y.1) (fun v w n y => ⟨y, fun z => n z.1⟩) ((gW_gWin.mp h).2) u hu
    unfold gW
    rw [e, gL_all]
    exact ⟨fun y => ⟨hu, this.mp y.2⟩, fun y => ⟨hu, this.mpr y.2⟩⟩
  · exact ⟨fun y => absurd y.1 hu, fun y => absurd y.1 hu⟩
section NEED5
variable {pl mv : List (Nat × Nat)} {places odd moves bp ba zero zk : Int32} {calls fr to calling next owned : Nat → Int32}
  {post : Int32 → Int32 → Int32 → Int32 → Int32 → (Nat → Int32) → (Nat → Int32) → (Nat → Int32) → Prop}
end NEED5
section NEED6
variable {pl mv : List (Nat × Nat)} {live measure now weight : Nat → Int32}
  {post3 : Int32 → Int32 → Int32 → (Nat → Int32) → (Nat → Int32) → (Nat → Int32) → Prop}
end NEED6
/-! keyPlace -/
noncomputable def kpF (pl mv : List (Nat × Nat)) (p : Nat) : Nat := pCnt (fun u => pD (¬ (gW (aOther pl p) mv allL 0 u ↔ gW pl mv allL 0 u))) pl.length
def kpM (f : Nat → Nat) : Nat → Nat
  | 0 => 0
  | k + 1 => if kpM f k < f k then f k else kpM f k
def kpK (f : Nat → Nat) : Nat → Int32
  | 0 => -1
  | k + 1 => if kpM f k < f k then nI k else kpK f k
theorem kpM_le {f : Nat → Nat} {b : Nat} (h : ∀ k, f k ≤ b) : ∀ k, kpM f k ≤ b
  | 0 => Nat.zero_le _
  | k + 1 => by
    show (if kpM f k < f k then f k else kpM f k) ≤ b
    split
    · exact h k
    · exact kpM_le h k
theorem kp_cnt {pl mv : List (Nat × Nat)} {p : Nat} {r z : Int32} (hn : pl.length ≤ 20) (hr : ∀ u, bt r u = true ↔ gW (aOther pl p) mv allL 0 u) (hz : ∀ u, bt z u = true ↔ gW pl mv allL 0 u) : (∀ u, bt (r ^^^ z) u = true → u < 20) ∧ sCnt (r ^^^ z) = kpF pl mv p := by
  have hl : (aOther pl p).length = pl.length := by unfold aOther; rw [List.length_set]
  have hx : ∀ u, bt (r ^^^ z) u = true ↔ u < pl.length ∧ pD (¬ (gW (aOther pl p) mv allL 0 u ↔ gW pl mv allL 0 u)) = true := fun u => by
    rw [pD_t, ← hr u, ← hz u, b_xor]
    have a := hr u
    have b := hz u
    cases h1 : bt r u
    · cases h2 : bt z u
      · exact ⟨fun y => absurd y (by decide), fun y => absurd Iff.rfl y.2⟩
      · rw [h2] at b
        exact ⟨fun _ => ⟨(b.mp rfl).1, fun y => absurd (y.mpr rfl) (by decide)⟩, fun _ => rfl⟩
    · cases h2 : bt z u
      · rw [h1] at a
        have := (a.mp rfl).1
        rw [hl] at this
        exact ⟨fun _ => ⟨this, fun y => absurd (y.mp rfl) (by decide)⟩, fun _ => rfl⟩
      · exact ⟨fun y => absurd y (by decide), fun y => absurd Iff.rfl y.2⟩
  exact ⟨fun u hu => by have := ((hx u).mp hu).1; omega, sCnt_of hn hx⟩
theorem i_xorc (x y : Int32) : x ^^^ y = y ^^^ x := b_ext (fun i _ => by rw [b_xor, b_xor, Bool.xor_comm])
section KEY5
variable {pl mv : List (Nat × Nat)} {places odd moves bp ba zero zk : Int32} {calls fr to calling next owned : Nat → Int32}
  {post : Int32 → Int32 → Int32 → Int32 → Int32 → (Nat → Int32) → (Nat → Int32) → (Nat → Int32) → Prop}
end KEY5
section KEY6
variable {pl mv : List (Nat × Nat)} {live measure now weight : Nat → Int32}
  {post4 : Int32 → Int32 → Int32 → (Nat → Int32) → (Nat → Int32) → (Nat → Int32) → (Nat → Int32) → Prop}
end KEY6
