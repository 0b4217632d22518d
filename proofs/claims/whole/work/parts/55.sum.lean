/-! the class's calculator: numbers as whole numbers, their sums -/
/-- a Num at a, its digits at t -/
def oNm (S : ox_St) (a t : Nat) (f : Nat → Nat) (n : Nat) (neg : Int32) : Prop := S.K a = 8 ∧ S.R 52 a = t ∧ oDs S t f n ∧ dc f n ∧ S.I 51 a = neg ∧ (neg = 0 ∨ neg = 1) ∧ (n = 0 → neg = 0)
def nv (f : Nat → Nat) (n : Nat) (neg : Int32) : Int := if neg = 0 then (dv f n : Int) else -(dv f n : Int)
theorem dv_dg {f : Nat → Nat} {n : Nat} (hn : n ≤ 16) : dv (dg f n) 16 = dv f n := by
  have h1 := dv_zero (f := dg f n) (n := n) (16 - n) (fun i h1 _ => if_neg (by omega))
  rw [show n + (16 - n) = 16 by omega] at h1
  rw [h1]
  exact dv_congr n (fun i hi => if_pos hi)
/-- what is below and not the calculator's work -/
def oKp (b x : Nat) (a : Nat) : Prop := a < b ∧ a ≠ x
theorem oMade_ag {T : ox_St} {t k : Nat} {neg : Int32} : oAg (fun a => a < T.n) T (oMade T t k neg) := by
  have h0 : ¬ T.n < T.n := Nat.lt_irrefl _
  refine (oAg_newO (P := fun a => a < T.n) (κ := 8) h0).trans ?_
  have h1 : oAg (fun a => a < T.n) (T.newO 8) (oCpy (T.newO 8) t k) := by
    intro q hq
    have e : ¬ q = T.n + 1 := fun z => by
      have : q < T.n := hq
      omega
    exact ⟨if_neg e, if_neg e, fun _ => rfl, fun _ => rfl, fun _ => rfl, fun j => (if_neg e).trans (if_neg e), fun j => if_neg e, fun j => if_neg e⟩
  refine h1.trans ?_
  have s1 : ∀ (T' : ox_St) (F : Nat) (v : Int32), oAg (fun a => a < T.n) T' (T'.sI F T.n v) := fun T' F v => oAg_sI (P := fun a => a < T.n) h0
  exact (((s1 _ 6 _).trans (s1 _ 7 _)).trans (s1 _ 51 _)).trans (oAg_sR (P := fun a => a < T.n) h0)
theorem oMade_nm {T : ox_St} {t k n : Nat} {w : Nat → Nat} {neg : Int32} (hw : ∀ i, i < n → T.rI t i = nI (w i) ∧ w i < 32768) (htn : t < T.n) (hk : dct w n = k) (h16 : k ≤ 16) (hneg : neg = 0 ∨ neg = 1) : oNm (oMade T t k neg) T.n (T.n + 1) w k (if neg = 0 ∨ k = 0 then 0 else 1) ∧ dv w k = dv w n ∧ (oMade T t k neg).n = T.n + 2 := by
  have hkn : k ≤ n := hk ▸ dct_le w n
  obtain ⟨z1, z2⟩ := dct_spec w n
  rw [hk] at z1 z2
  obtain ⟨c1, c2⟩ := dc_cut (f := w) (k := k) (n := n) (fun i hi => (hw i hi).2) hkn z1 z2
  refine ⟨⟨?_, ?_, ⟨?_, ?_, h16, fun i hi => ⟨?_, (hw i (by omega)).2⟩⟩, c1, ?_, ?_, ?_⟩, c2, rfl⟩
  · show (if T.n = T.n + 1 then 15 else if T.n = T.n then 8 else T.K T.n) = 8
    rw [if_neg (by omega), if_pos rfl]
  · exact if_pos ⟨rfl, rfl⟩
  · show (if T.n + 1 = T.n + 1 then 15 else _) = 15
    exact if_pos rfl
  · show (if T.n + 1 = T.n + 1 then k else _) = k
    exact if_pos rfl
  · show (if T.n + 1 = T.n + 1 then va_cpy (T.rI t) (fun _ => 0) 0 0 k i else _) = nI (w i)
    rw [if_pos rfl, va_cpy, if_pos (by omega), show 0 + (i - 0) = i by omega]
    exact (hw i (by omega)).1
  · show (((oV0 (oCpy (T.newO 8) t k) T.n 3 0).sI 51 T.n (if neg = 0 ∨ k = 0 then 0 else 1)).sR 52 T.n (T.n + 1)).I 51 T.n = _
    rw [or_sR_I, or_sI_I, if_pos ⟨rfl, rfl⟩]
  · by_cases h : neg = 0 ∨ k = 0
    · rw [if_pos h]; exact Or.inl rfl
    · rw [if_neg h]; exact Or.inr rfl
  · intro h
    rw [if_pos (Or.inr h)]
theorem oWs_dv {F G : Nat → Nat} : dv (oWs F G) 17 = dv F 16 + dv G 16 := by
  have h := dv_add (f := F) (g := G) (w := wS F G) (c := cS F G) rfl 16 (fun i _ => (Nat.mod_add_div _ _).symm)
  rw [← h]
  show dv (oWs F G) 16 + oWs F G 16 * 32768 ^ 16 = _
  rw [show oWs F G 16 = cS F G 16 from if_pos rfl, dv_congr (f := oWs F G) (g := wS F G) 16 (fun i hi => if_neg (by omega))]
theorem wD_dv {F G : Nat → Nat} (hF : ∀ i, F i < 32768) (hG : ∀ i, G i < 32768) (hle : dv G 16 ≤ dv F 16) : dv (wD F G) 16 = dv F 16 - dv G 16 := by
  have h := dv_sub (f := F) (g := G) (w := wD F G) (d := cD F G) rfl 16 (fun i _ => by
    have h1 := hF i
    have h2 := hG i
    have h3 := cD_le (f := F) (g := G) i
    show F i + 32768 * (if G i + cD F G i ≤ F i then 0 else 1) = G i + cD F G i + (if G i + cD F G i ≤ F i then F i - (G i + cD F G i) else F i + 32768 - (G i + cD F G i))
    by_cases hc : G i + cD F G i ≤ F i
    · rw [if_pos hc, if_pos hc]; omega
    · rw [if_neg hc, if_neg hc]; omega)
  have hlt : dv (wD F G) 16 < 32768 ^ 16 := dv_lt 16 (fun i _ => by
    have h1 := hF i
    have h2 := hG i
    have h3 := cD_le (f := F) (g := G) i
    unfold wD
    by_cases hc : G i + cD F G i ≤ F i
    · rw [if_pos hc]; omega
    · rw [if_neg hc]; omega)
  have h3 := cD_le (f := F) (g := G) 16
  have h5 : cD F G 16 = 0 := by
    refine Nat.eq_zero_of_not_pos fun hp => ?_
    have e : cD F G 16 = 1 := by omega
    rw [e, Nat.one_mul] at h
    omega
  rw [h5, Nat.zero_mul] at h
  omega
