/-! shares, bits, means: finitely many numbers -/
def okF (x : UInt32) : Bool := decide (x &&& 0x7fffffff ≤ 0x7f800000)
theorem okF_t {x : UInt32} (h : okF x = true) : vf_n32 x := by
  unfold vf_n32
  exact of_decide_eq_true h
def okD (x : UInt64) : Bool := decide (x &&& 0x7fffffffffffffff ≤ 0x7ff0000000000000)
theorem okD_t {x : UInt64} (h : okD x = true) : vf_n64 x := by
  unfold vf_n64
  exact of_decide_eq_true h
def shF (a b : Nat) : UInt32 := FP.fdiv (FP.i2f (nI a)) (FP.i2f (nI b))
def btFin (v1 : UInt32) (v2 : Int32) : Option Int32 :=
  if (okF (FP.fsub v1 FP.fconst1) && okF (FP.fmul (FP.fsub v1 FP.fconst1) (1258291200 : UInt32))) = true then some ((v2 <<< ((23 : Int32) &&& 31)) ||| (FP.f2i (FP.fmul (FP.fsub v1 FP.fconst1) (1258291200 : UInt32)))) else none
def btG : Nat → UInt32 → Int32 → Int32 → Option Int32
  | 0, _, _, _ => none
  | n + 1, v1, v2, v3 => if (126 : Int32) ≤ v3 then btFin v1 v2 else if (0 : Int32) ≤ Op.cmpValue (FP.fcmp v1 FP.fconst1) .g then btFin v1 v2 else if okF (FP.fmul v1 FP.fconst2) = true then btG n (FP.fmul v1 FP.fconst2) (v2 + (-1 : Int32)) (v3 + (1 : Int32)) else none
abbrev btK (post : Int32 → Prop) : UInt32 → Int32 → Int32 → Prop := fun v1_1 v2_2 _ => (vf_n32 (FP.fsub v1_1 FP.fconst1) ∧ (vf_n32 (FP.fmul (FP.fsub v1_1 FP.fconst1) (1258291200 : UInt32)) ∧ (post (((v2_2 <<< ((23 : Int32) &&& 31)) ||| (FP.f2i ((FP.fmul (FP.fsub v1_1 FP.fconst1) (1258291200 : UInt32)))))))))
theorem btFin_ok {v1 : UInt32} {v2 v3 r : Int32} {post : Int32 → Prop} (h : btFin v1 v2 = some r) (hp : post r) : btK post v1 v2 v3 := by
  unfold btFin at h
  split at h
  · rename_i q
    rw [Bool.and_eq_true] at q
    cases h
    exact ⟨okF_t q.1, okF_t q.2, hp⟩
  · cases h
def shOk (a b : Nat) : Bool :=
  okF (shF a b) && (if (0 : Int32) < Op.cmpValue (FP.fcmp (shF a b) FP.fconst0) .g then decide (btG 8 (shF a b) 127 0 = some (shF a b).toInt32) else decide ((0 : Int32) = (shF a b).toInt32)) && decide (Op.cmpValue (FP.fcmp (shF a b) (shF a b)) .l = 0)
theorem sh_tab : ∀ b, b < 20 → ∀ a, a < b + 2 → shOk a (b + 1) = true := by decide +kernel
theorem sh_use {a b : Nat} (hb : 1 ≤ b) (hb2 : b ≤ 20) (ha : a ≤ b) : shOk a b = true := by
  have := sh_tab (b - 1) (by omega) a (by omega)
  rw [Nat.sub_add_cancel hb] at this
  exact this
theorem shF_ok {a b : Nat} (hb : 1 ≤ b) (hb2 : b ≤ 20) (ha : a ≤ b) : vf_n32 (shF a b) := by
  have hs := sh_use hb hb2 ha
  unfold shOk at hs
  rw [Bool.and_eq_true, Bool.and_eq_true] at hs
  exact okF_t hs.1.1
def mnF (a b : Nat) : UInt64 := FP.ddiv (FP.i2d (nI a)) (FP.i2d (nI b))
theorem mn_tab : ∀ b, b < 20 → ∀ a, a < 181 → okD (mnF a (b + 1)) = true := by decide +kernel
theorem mnF_ok {a b : Nat} (hb : 1 ≤ b) (hb2 : b ≤ 20) (ha : a ≤ 180) : vf_n64 (mnF a b) := by
  have := mn_tab (b - 1) (by omega) a (by omega)
  rw [Nat.sub_add_cancel hb] at this
  exact okD_t this
/-- how many places player i wins from; the sum of their calls -/
noncomputable def wCnt (pl mv : List (Nat × Nat)) (i : Nat) : Nat := pCnt (fun u => pD (gW pl mv allL i u)) pl.length
noncomputable def wSum (pl mv : List (Nat × Nat)) (i : Nat) : Nat → Nat
  | 0 => 0
  | k + 1 => wSum pl mv i k + if pD (gW pl mv allL i k) = true then lB pl k else 0
noncomputable def mnV (pl mv : List (Nat × Nat)) (i : Nat) : UInt64 := if wCnt pl mv i = 0 then FP.dconst0 else mnF (wSum pl mv i pl.length) (wCnt pl mv i)
theorem wSum_le {pl mv : List (Nat × Nat)} {i : Nat} (hc : ∀ u, lB pl u < 10) : ∀ k, wSum pl mv i k ≤ 9 * k
  | 0 => Nat.le_refl _
  | k + 1 => by
    have := wSum_le (mv := mv) (i := i) hc k
    have := hc k
    simp only [wSum]
    split <;> omega
theorem wCnt_eq {pl mv : List (Nat × Nat)} {i : Nat} {r : Int32} (hn : pl.length ≤ 20) (hr : ∀ u, bt r u = true ↔ gW pl mv allL i u) : (∀ u, bt r u = true → u < 20) ∧ sCnt r = wCnt pl mv i := by
  refine ⟨fun u hu => by have := ((hr u).mp hu).1; omega, sCnt_of hn (fun u => ?_)⟩
  rw [hr u, pD_t]
  exact ⟨fun q => ⟨q.1, q⟩, fun q => q.2⟩
theorem wCnt_le {pl mv : List (Nat × Nat)} {i : Nat} : wCnt pl mv i ≤ pl.length := pCnt_top _ _
theorem w_step {pl mv : List (Nat × Nat)} {i k : Nat} {r : Int32} (hr : ∀ u, bt r u = true ↔ gW pl mv allL i u) : (bt r k = true → wSum pl mv i (k + 1) = wSum pl mv i k + lB pl k ∧ pD (gW pl mv allL i k) = true) ∧ (¬ bt r k = true → wSum pl mv i (k + 1) = wSum pl mv i k ∧ pD (gW pl mv allL i k) = false) := by
  refine ⟨fun q => ?_, fun q => ?_⟩
  · have e := pD_t.mpr ((hr k).mp q)
    exact ⟨by simp only [wSum]; rw [if_pos e], e⟩
  · have e : pD (gW pl mv allL i k) = false := pD_f.mpr (fun y => q ((hr k).mpr y))
    exact ⟨by simp only [wSum]; rw [if_neg (by rw [e]; decide)]; rfl, e⟩
section FLT5
variable {pl mv : List (Nat × Nat)} {a places odd moves bp ba zero zk : Int32} {calls fr to calling next owned : Nat → Int32}
  {postf : UInt32 → Int32 → Int32 → Int32 → Int32 → (Nat → Int32) → (Nat → Int32) → (Nat → Int32) → Prop} {postd : UInt64 → Int32 → Int32 → Int32 → Int32 → (Nat → Int32) → (Nat → Int32) → (Nat → Int32) → Prop} {post : Int32 → Int32 → Int32 → Int32 → Int32 → (Nat → Int32) → (Nat → Int32) → (Nat → Int32) → Prop} {postX : String → Int32 → Int32 → Int32 → Int32 → (Nat → Int32) → (Nat → Int32) → (Nat → Int32) → Prop}
theorem x5_shareOf {i : Nat} (hi : i < 2) (hg : gOk0 pl mv) (h1 : 1 ≤ pl.length) (hp : RP pl places odd calls) (hv : RV mv moves fr to) (hz : RZ pl mv zero zk)
    (h : ∀ b1 b2 z' k' c1 n1 o1, RZ pl mv z' k' → postf (shF (wCnt pl mv i) pl.length) b1 b2 z' k' c1 n1 o1) : wp_X5_shareOf (nI i) bp ba places odd moves zero zk calling next owned calls fr to postf := by
  have hn := hg.1
  unfold wp_X5_shareOf
  refine x3_wonBy hi hg hp hv hz (fun r z' k' p' a' c' n' o' hr hz' _ => ?_)
  obtain ⟨x1, x2⟩ := wCnt_eq hn hr
  refine bitCount_ok x1 ?_
  rw [x2, hp.1]
  exact ⟨shF_ok h1 hn wCnt_le, h _ _ _ _ _ _ _ hz'⟩
theorem x5_wonShare (hg : gOk0 pl mv) (h1 : 1 ≤ pl.length) (hp : RP pl places odd calls) (hv : RV mv moves fr to) (hz : RZ pl mv zero zk)
    (h0 : ¬ isN 2 a → postX "java/lang/IllegalArgumentException" bp ba zero zk calling next owned)
    (h : ∀ b1 b2 z' k' c1 n1 o1, isN 2 a → RZ pl mv z' k' → postf (shF (wCnt pl mv (ix a)) pl.length) b1 b2 z' k' c1 n1 o1) : wp_X5_wonShare a bp ba places odd moves zero zk calling next owned calls fr to postf postX := by
  unfold wp_X5_wonShare
  refine n5_player h0 (fun ha => ?_)
  obtain ⟨i, hi, e⟩ := ha
  have hpost := fun b1 b2 z' k' c1 n1 o1 => h b1 b2 z' k' c1 n1 o1 ⟨i, hi, e⟩
  rw [e, ix_nI (by omega)] at hpost
  rw [e]
  exact x5_shareOf hi hg h1 hp hv hz hpost
end FLT5
section FLT6
variable {pl mv : List (Nat × Nat)} {a t0 : Int32} {live measure now weight : Nat → Int32}
  {post3 : Int32 → Int32 → Int32 → (Nat → Int32) → (Nat → Int32) → (Nat → Int32) → Prop}
  {postf : UInt32 → Int32 → (Nat → Int32) → (Nat → Int32) → (Nat → Int32) → Prop} {postg : UInt32 → Int32 → Int32 → (Nat → Int32) → (Nat → Int32) → (Nat → Int32) → Prop} {postd : UInt64 → Int32 → Int32 → (Nat → Int32) → (Nat → Int32) → (Nat → Int32) → Prop}
end FLT6
