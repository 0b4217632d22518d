/-! the class's calculator: added, lessened -/
theorem oFl_snoc {t : Nat} {g : Nat → Int32} : ∀ (k i : Nat) (S : ox_St), (oFl t g i k S).wI t (i + k) (g (i + k)) = oFl t g i (k + 1) S
  | 0, _, _ => rfl
  | k + 1, i, S => by
    have := oFl_snoc (t := t) (g := g) k (i + 1) (S.wI t i (g i))
    rw [show i + 1 + k = i + (k + 1) by omega] at this
    exact this
theorem oFl_at {t : Nat} {g : Nat → Int32} {k : Nat} {S : ox_St} {j : Nat} (h : j < k) : (oFl t g 0 k S).rI t j = g j := by
  rw [oFl_row, if_pos (by omega)]
theorem oFl_Ds {t t1 n : Nat} {g : Nat → Int32} {f : Nat → Nat} {k : Nat} {S : ox_St} (hne : t1 ≠ t) (h : oDs S t1 f n) : oDs (oFl t g 0 k S) t1 f n := by
  obtain ⟨g1, g2, -, -, -, g6, -⟩ := oFl_ag (P := fun a => a = t1) (t := t) (g := g) (fun e => hne e.symm) k 0 S t1 rfl
  exact ⟨g1.trans h.1, g2.trans h.2.1, h.2.2.1, fun i hi => ⟨(g6 i).trans (h.2.2.2 i hi).1, (h.2.2.2 i hi).2⟩⟩
theorem nI_wrap (a : Nat) : nI (a + 4294967296) = nI a := by
  rw [← nI_add, show nI 4294967296 = 0 from by decide +kernel, Int32.add_zero]
theorem nI_ss {a b c : Nat} (h : b + c ≤ 4294967296) : nI a - nI b - nI c = nI (a + 4294967296 - (b + c)) := by
  rw [← nI_wrap a, pk_sub (by omega), pk_sub (by omega), Nat.sub_sub]
theorem and_nI (m : Nat) : nI m &&& 32767 = nI (m % 32768) := by
  rw [pk_and (nI m) 15 rfl, show (nI m).toBitVec.toNat = m % 2 ^ 32 from rfl, Nat.mod_mod_of_dvd m (by decide : 2 ^ 15 ∣ 2 ^ 32)]
theorem dig_mod {a b c : Nat} (ha : a < 32768) (hb : b < 32768) (hc : c ≤ 1) : (a + 4294967296 - (b + c)) % 32768 = if b + c ≤ a then a - (b + c) else a + 32768 - (b + c) := by
  by_cases h : b + c ≤ a
  · rw [if_pos h]
    omega
  · rw [if_neg h]
    omega
theorem dig_sub {a b c : Nat} (ha : a < 32768) (hb : b < 32768) (hc : c ≤ 1) : (nI a - nI b - nI c) &&& 32767 = nI (if b + c ≤ a then a - (b + c) else a + 32768 - (b + c)) := by
  rw [nI_ss (by omega), and_nI, dig_mod ha hb hc]
theorem dig_neg {a b c : Nat} (ha : a < 32768) (hb : b < 32768) (hc : c ≤ 1) : (0 : Int32) ≤ nI a - nI b - nI c ↔ b + c ≤ a := by
  have e : nI a - nI b - nI c = nI a - nI (b + c) := by
    rw [nI_ss (by omega)]
    rw [← nI_wrap a, pk_sub (by omega)]
  rw [e, Int32.le_iff_toInt_le, pk_sub_toInt (by omega) (by omega), show (0 : Int32).toInt = 0 from rfl]
  omega
/-- carries and digits of a sum -/
def cS (f g : Nat → Nat) : Nat → Nat
  | 0 => 0
  | i + 1 => (f i + g i + cS f g i) / 32768
def wS (f g : Nat → Nat) (i : Nat) : Nat := (f i + g i + cS f g i) % 32768
theorem cS_le {f g : Nat → Nat} (hf : ∀ i, f i < 32768) (hg : ∀ i, g i < 32768) : ∀ i, cS f g i ≤ 1
  | 0 => Nat.zero_le 1
  | i + 1 => by
    have := cS_le hf hg i
    have h1 := hf i
    have h2 := hg i
    show (f i + g i + cS f g i) / 32768 ≤ 1
    omega
/-- borrows and digits of a difference -/
def cD (f g : Nat → Nat) : Nat → Nat
  | 0 => 0
  | i + 1 => if g i + cD f g i ≤ f i then 0 else 1
def wD (f g : Nat → Nat) (i : Nat) : Nat := if g i + cD f g i ≤ f i then f i - (g i + cD f g i) else f i + 32768 - (g i + cD f g i)
theorem cD_le {f g : Nat → Nat} : ∀ i, cD f g i ≤ 1
  | 0 => Nat.zero_le 1
  | i + 1 => by
    show (if g i + cD f g i ≤ f i then 0 else 1) ≤ 1
    by_cases h : g i + cD f g i ≤ f i
    · rw [if_pos h]; decide
    · rw [if_neg h]; decide
/-- the calculator at x: its three rows -/
def oCal (S : ox_St) (x : Nat) : Prop := S.K x = 2 ∧ (S.R 3 x = x + 1 ∧ S.K (x + 1) = 15 ∧ S.len (x + 1) = 34) ∧ (S.R 4 x = x + 2 ∧ S.K (x + 2) = 15 ∧ S.len (x + 2) = 18) ∧ S.R 5 x = x + 3 ∧ S.K (x + 3) = 15 ∧ S.len (x + 3) = 18
theorem oCal.fl {S : ox_St} {x k : Nat} {g : Nat → Int32} (h : oCal S x) : oCal (oFl (x + 1) g 0 k S) x := by
  obtain ⟨g1, g2, g3, g4, -⟩ := oFl_ag (P := fun a => a = x) (t := x + 1) (g := g) (fun e => by omega) k 0 S x rfl
  obtain ⟨h1, ⟨h2, h3, h4⟩, ⟨h5, h6, h7⟩, h8, h9, h10⟩ := h
  rw [← oFl_K k 0 S (t := x + 1) (g := g)] at h1 h3 h6 h9
  rw [← oFl_len k 0 S (t := x + 1) (g := g)] at h4 h7 h10
  exact ⟨h1, ⟨(g4 _).trans h2, h3, h4⟩, ⟨(g4 _).trans h5, h6, h7⟩, (g4 _).trans h8, h9, h10⟩
section OAD
variable {d mr sr : Nat} {S : ox_St} {Q : ox_Q} {x t1 t2 n1 n2 : Nat} {f g : Nat → Nat}
/-- what work holds behind an addition -/
def oWs (F G : Nat → Nat) (i : Nat) : Nat := if i = 16 then cS F G 16 else wS F G i
theorem s_4 (hC : oCal S x) (h1 : oDs S t1 f n1) (h2 : oDs S t2 g n2) (k1 : t1 ≠ x + 1) (k2 : t2 ≠ x + 1) (hQ : Q none (oFl (x + 1) (fun i => nI (oWs (dg f n1) (dg g n2) i)) 0 17 S)) : ox_M lw_sp (d + 6) 4 [.inr (.inr x), .inr (.inr t1), .inr (.inr t2)] mr sr S Q := by
  have hE : ox_mono (ox_M lw_sp (d + 5)) := ox_M_mono lw_sp_mono _
  have hF : ∀ i, dg f n1 i < 32768 := fun i => dg_lt (fun j hj => (h1.2.2.2 j hj).2)
  have hG : ∀ i, dg g n2 i < 32768 := fun i => dg_lt (fun j hj => (h2.2.2.2 j hj).2)
  generalize hFF : dg f n1 = F at hF hQ
  generalize hGG : dg g n2 = G at hG hQ
  have loop : ∀ k i : Nat, i + k = 16 → c_4_5 (ox_M lw_sp (d + 5)) x t1 t2 (nI (cS F G i)) (nI i) (oFl (x + 1) (fun i => nI (oWs F G i)) 0 i S) mr sr Q := by
    intro k
    induction k with
    | zero =>
      intro i hi
      have hi : i = 16 := by omega
      subst hi
      have hC' := hC.fl (k := 16) (g := fun i => nI (oWs F G i))
      have e17 : (oFl (x + 1) (fun i => nI (oWs F G i)) 0 16 S).wI (x + 1) 16 (nI (cS F G 16)) = oFl (x + 1) (fun i => nI (oWs F G i)) 0 17 S := oFl_snoc 16 0 S
      refine f_4_5 hE ⟨fun _ => ⟨by rw [hC'.1]; rfl, by rw [hC'.2.1.1]; exact hC'.2.1.2.1, by rw [hC'.2.1.1, hC'.2.1.2.2]; exact vp_in_nI (n := 16) (by decide) (by decide), ?_⟩, fun z => absurd (by decide) z⟩
      have e16 : Int32.toNatClampNeg 16 = 16 := by decide
      rw [hC'.2.1.1, e16, e17]
      exact ⟨rfl, hQ⟩
    | succ k ih =>
      intro i hi
      have hC' := hC.fl (k := i) (g := fun i => nI (oWs F G i))
      have d1 := oFl_Ds (g := fun i => nI (oWs F G i)) (k := i) k1 h1
      have d2 := oFl_Ds (g := fun i => nI (oWs F G i)) (k := i) k2 h2
      have hcs := cS_le hF hG i
      have hf := hF i
      have hg := hG i
      refine f_4_5 hE ⟨fun q => absurd q (nI_ge (b := 16) (by omega) (by omega)), fun _ => ⟨by decide, by decide, 0, 0, Nat.zero_le _, Nat.zero_le _, s_13 (d := d + 4) lw_sp_mono d1 (by omega) ?_⟩⟩
      rw [hFF]
      refine f_4_18 hE ⟨by decide, by decide, 0, 0, Nat.zero_le _, Nat.zero_le _, s_13 (d := d + 4) lw_sp_mono d2 (by omega) ?_⟩
      rw [hGG]
      refine f_4_24 hE ?_
      have ew : nI (F i) + nI (G i) + nI (cS F G i) = nI (F i + G i + cS F G i) := by rw [nI_add, nI_add]
      show ox_has _ 3 = true ∧ _
      rw [ew, pk_andN (by omega) 15 rfl, pk_shrN (by omega) (15 &&& 31) 15 (by decide)]
      refine ⟨by rw [hC'.1]; rfl, by rw [hC'.2.1.1]; exact hC'.2.1.2.1, by rw [hC'.2.1.1, hC'.2.1.2.2]; exact vp_in_nI (by omega) (by omega), ?_⟩
      rw [hC'.2.1.1, nI_clamp (by omega), nI_1]
      have eo : oWs F G i = (F i + G i + cS F G i) % 2 ^ 15 := by
        unfold oWs
        rw [if_neg (by omega)]
        rfl
      have es : (oFl (x + 1) (fun i => nI (oWs F G i)) 0 i S).wI (x + 1) i (nI ((F i + G i + cS F G i) % 2 ^ 15)) = oFl (x + 1) (fun i => nI (oWs F G i)) 0 (i + 1) S := by
        have := oFl_snoc (t := x + 1) (g := fun i => nI (oWs F G i)) i 0 S
        rw [Nat.zero_add] at this
        rw [← this, eo]
      rw [es]
      exact ih (i + 1) (by omega)
  exact f_4 (d := d + 5) lw_sp_mono (loop 16 0 rfl)
end OAD
