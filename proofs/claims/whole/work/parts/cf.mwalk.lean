/-! the reference: WALK -/
section RWk
variable {sp : ox_E} {d mr sr : Nat} {S S' S2 : ox_St} {Q : ox_Q} {m ce a : Nat} {γ : Int → Nat} {B : List Int} {T : Nat} {C : Nat → xCd} {nc K y : Nat} {e : xEn} {q j i : Nat} {st r : List Int} {v u n : Int} {H : xHp} {o : xOb}
/-- three cells are put -/
theorem rE.put1 (h : rE S m ce γ B T C nc y e q st) (hx : xEs1 C nc K e st) {a1 a2 a3 : Int32} (sz : xSz o = 3) (ho : rO (mPut S m (m + ce) T a1 a2 a3) (m + ce) (upA γ e.n T) e.n o) (hcl : ∀ u ∈ xRf o, xIn B u) (hT : T + 19 ≤ 1100000) : rE (mPut S m (m + ce) T a1 a2 a3) m ce (upA γ e.n T) (e.n :: B) (T + xSz o) C nc y (e.nw o) q st ∧ mFx m S (mPut S m (m + ce) T a1 a2 a3) ∧ (mPut S m (m + ce) T a1 a2 a3).R = S.R := by
  obtain ⟨k1, k2, k3, k4, k5, k6, k7, k8, k9, k10⟩ := (mNw_put : mNw m ce T S (mPut S m (m + ce) T a1 a2 a3))
  have h75 : (mPut S m (m + ce) T a1 a2 a3).I 75 m = nI (T + 3) := mPut_75
  generalize mPut S m (m + ce) T a1 a2 a3 = U at k1 k2 k3 k4 k5 k6 k7 k8 k9 k10 h75 ho ⊢
  have hce := h.c23
  have fx : mFx m S U := ⟨k3, k1, k2, k5, k6, fun F a _ => by rw [k4], fun F a z => k8 F a (Or.inl z), fun a z => k9 a (by omega) (by omega), fun a _ => by rw [k7], fun F z => k8 F m (Or.inr (by omega)), fun p z => k9 (m + p) (by omega) (by omega), by rw [k7]⟩
  exact ⟨h.ext hx fx k4 (fun F z => k8 F m (Or.inr (by omega))) (by rw [sz]; exact h75) (fun a z1 z2 => k9 a (by omega) (by omega)) k7 k10 ho hcl (by rw [sz]; omega), fx, k4⟩
theorem r_198 (hsp : ox_mono sp) (hin : rIn C nc K e (v :: r) 1) (h : rE S m ce γ B T C nc y e q (v :: r)) (hT : T + 19 ≤ 1100000) (hQ : ∀ S', mFx m S S' → S'.R = S.R → rX S' m ce T C nc y e q (v :: r) (xWalk e q r v) → Q none S') : ox_M sp (d + 3) 198 [.inr (.inr m)] mr sr S Q := by
  have hE : ox_mono (ox_M sp (d + 2)) := ox_M_mono hsp _
  have hx := hin.1
  have s10 : r.length + 1 ≤ 10 := hx.2.2.1
  refine f_198 hsp ⟨by decide, h.k, by decide, 0, 0, Nat.zero_le _, Nat.zero_le _, r_175 hsp h hx (fun S1 a1 a2 hB => f_198_4 hE ⟨by decide, a2.k, by decide, 0, 0, Nat.zero_le _, Nat.zero_le _, r_133 hsp a2 hx.tail hx.head hB (f_198_10 hE ?_)⟩)⟩
  have T16 : 16 ≤ T := a2.2.1.1.2.2.2.1
  have bad : ∀ x2 mr sr, xWalk e q r v = .inl 0 → (2 ≤ 2 ∧ S1.K m = 14 ∧ 0 ≤ 8 ∧ ∃ mc mk, mc ≤ mr ∧ mk ≤ sr ∧ ox_M sp (d + 2) 177 [.inr (.inr m), .inl 0] mc mk S1 (k_198_55 (ox_M sp (d + 2)) m (gV γ v) x2 (mr - mc) (sr - mk) Q)) := fun x2 mr sr e0 => by
    rw [e0] at hQ
    exact ⟨by decide, a2.k, by decide, 0, 0, Nat.zero_le _, Nat.zero_le _, r_raise hsp (k := 0) (i := 1) (by decide) hin (Nat.le_refl _) a2 (fun S' b1 b2 b3 => f_198_55 hE ⟨rfl, hQ S' (a1.1.trans b1) (b2.trans a1.2.1) (rX_k b3)⟩)⟩
  have mk : ∀ x2 mr sr, xWalk e q r v = xMk e q r (.inr (.inr (.inr (.inl (v, 0))))) → xLen e.H v ≠ none → (4 ≤ 5 ∧ S1.K m = 14 ∧ 1 ≤ 8 ∧ ∃ mc mk, mc ≤ mr ∧ mk ≤ sr ∧ ox_M sp (d + 2) 132 [.inr (.inr m), .inl 6, .inl (gV γ v), .inl 0] mc mk S1 (k_198_44 (ox_M sp (d + 2)) m (gV γ v) x2 m (mr - mc) (sr - mk) Q)) := fun x2 mr sr e0 hl => by
    rw [e0] at hQ
    have en : upA γ e.n T e.n = T := if_pos rfl
    have ho : rO (mPut S1 m (m + ce) T 6 (gV γ v) 0) (m + ce) (upA γ e.n T) e.n (.inr (.inr (.inr (.inl (v, 0))))) := by
      refine ⟨by rw [en]; exact T16, ?_⟩
      rw [en]
      refine ⟨?_, ?_, ?_⟩
      · rw [mPut_row, if_neg (by omega), if_neg (by omega), if_pos rfl]
      · rw [mPut_row, if_neg (by omega), if_pos rfl]
        exact (gV_new (a2.2.1.1.lt hx.1.1 hB)).symm
      · rw [mPut_row, if_pos rfl]; rfl
    obtain ⟨n1, n2, n3⟩ := a2.put1 hx.tail rfl ho (fun u hu => by
      rcases List.mem_cons.mp hu with z | z
      · rw [z]; exact hB
      · cases z) hT
    have eg : gV (upA γ e.n T) e.n = nI T := by
      unfold gV
      rw [if_neg (by have := hx.1.1.1; omega), en]
    refine ⟨by decide, a2.k, by decide, 0, 0, Nat.zero_le _, Nat.zero_le _, s_132 hsp a2.ml a2.2.1.2 (by omega) (f_198_44 hE ⟨by decide, n1.k, by decide, 0, 0, Nat.zero_le _, Nat.zero_le _, ?_⟩)⟩
    rw [← eg]
    exact r_give (o := .inr (.inr (.inr (.inl (v, 0))))) (st := v :: r) hsp hx.tail (by omega) ⟨hl, Nat.zero_le _⟩ (show T + 3 ≤ T + 19 by omega) n1 (fun S' b1 b2 b3 => f_198_47 hE (f_198_55 hE ⟨rfl, hQ S' (a1.1.trans (n2.trans b1)) (b2.trans (n3.trans a1.2.1)) b3⟩))
  by_cases v16 : v < 16
  · obtain ⟨-, e0, -⟩ := a2.lo hx.tail hx.head v16
    rw [if_pos v16]
    exact ⟨fun _ => ⟨fun z => absurd z (by decide), fun _ => ⟨fun _ => bad _ _ _ (by unfold xWalk; rw [e0]), fun z => absurd z (by decide)⟩⟩, fun z => absurd z (by decide)⟩
  · obtain ⟨o, e1, -⟩ := a2.hi hB v16
    rw [if_neg v16, xTg_o (by omega) e1]
    match o, e1 with
    | .inl _, e1 =>
      show (¬ Int32.ofInt 3 = 6 → _) ∧ _
      exact ⟨fun _ => ⟨fun z => absurd z (show ¬ Int32.ofInt 3 = 4 by decide), fun _ => ⟨fun _ => bad _ _ _ (by unfold xWalk; rw [e1]), fun z => absurd z (show ¬ Int32.ofInt 3 = 5 by decide)⟩⟩, fun z => absurd z (show ¬ Int32.ofInt 3 = 6 by decide)⟩
    | .inr (.inl p), e1 =>
      exact ⟨fun _ => ⟨fun _ => mk _ _ _ (by unfold xWalk; rw [e1]) (by unfold xLen; rw [e1]; exact fun z => by cases z), fun z => absurd (show Int32.ofInt 4 = 4 by decide) z⟩, fun z => absurd z (show ¬ Int32.ofInt 4 = 6 by decide)⟩
    | .inr (.inr (.inl p)), e1 =>
      exact ⟨fun _ => ⟨fun z => absurd z (show ¬ Int32.ofInt 5 = 4 by decide), fun _ => ⟨fun z => absurd (show Int32.ofInt 5 = 5 by decide) z, fun _ => mk _ _ _ (by unfold xWalk; rw [e1]) (by unfold xLen; rw [e1]; exact fun z => by cases z)⟩⟩, fun z => absurd z (show ¬ Int32.ofInt 5 = 6 by decide)⟩
    | .inr (.inr (.inr (.inl p))), e1 =>
      have ew : xWalk e q r v = xGo e q (v :: r) := by unfold xWalk; rw [e1]
      rw [ew] at hQ
      exact ⟨fun z => absurd (show Int32.ofInt 6 = 6 by decide) z, fun _ => ⟨by decide, a2.k, by decide, 0, 0, Nat.zero_le _, Nat.zero_le _, r_174 hsp a2 hx.tail (by omega) hB (fun S' b1 b2 => f_198_22 hE (f_198_55 hE ⟨rfl, hQ S' (a1.1.trans b1.1) (b1.2.1.trans a1.2.1) (rX_go b2)⟩))⟩⟩
    | .inr (.inr (.inr (.inr p))), e1 =>
      exact ⟨fun _ => ⟨fun z => absurd z (show ¬ Int32.ofInt 7 = 4 by decide), fun _ => ⟨fun _ => bad _ _ _ (by unfold xWalk; rw [e1]), fun z => absurd z (show ¬ Int32.ofInt 7 = 5 by decide)⟩⟩, fun z => absurd z (show ¬ Int32.ofInt 7 = 6 by decide)⟩
end RWk
