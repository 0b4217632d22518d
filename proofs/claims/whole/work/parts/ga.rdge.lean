/-! reading: the place never goes back -/
section RG
variable {b : Nat → Nat} {e : Nat}
theorem bwS_ge {lo hi : Nat} {s : oTS} : s.1 ≤ (bwS b e lo hi s).1 := by
  obtain ⟨p, f⟩ := s
  cases f with
  | some v => exact Nat.le_refl _
  | none =>
    by_cases c : p < e ∧ lo ≤ b p ∧ b p ≤ hi
    · rw [bwS_ok c]; exact Nat.le_succ _
    · rw [bwS_no c]; exact Nat.le_refl _
theorem bwN_ge {s : oTS} : ∀ k, s.1 ≤ (bwN b e s k).1
  | 0 => Nat.le_refl _
  | k + 1 => Nat.le_trans (bwN_ge k) bwS_ge
theorem bwZ_ge {s : oTS} : ∀ k, s.1 ≤ (bwZ b e s k).1
  | 0 => Nat.le_refl _
  | k + 1 => Nat.le_trans (bwZ_ge k) bwS_ge
theorem nm1_ge {s : oTS} : s.1 ≤ (nm1 b e s).1 := Nat.le_trans bwS_ge (bwZ_ge _)
theorem nmN_ge {s : oTS} : ∀ k, s.1 ≤ (nmN b e s k).1
  | 0 => Nat.le_refl _
  | k + 1 => Nat.le_trans (nmN_ge k) nm1_ge
theorem nmS_ge {s : oTS} : s.1 ≤ (nmS b e s).1 := Nat.le_trans bwS_ge (nmN_ge _)
theorem inA_1 {s : oTS} : (inA b e s).1 = s.1 := by
  unfold inA
  by_cases c : s.1 < e ∧ b s.1 % 2 = 0
  · rw [if_pos c]
  · rw [if_neg c]; exact rfS_1 s
theorem hdS_ge {s : oTS} : s.1 ≤ (hdS b e s).1 := by
  have h1 : s.1 ≤ (hd3 b e s).1 := Nat.le_trans bwS_ge (Nat.le_trans bwS_ge bwS_ge)
  have h2 : (hd3 b e s).1 ≤ (inS b e (hd3 b e s)).1 := by
    refine Nat.le_trans ?_ (bwN_ge _)
    refine Nat.le_trans ?_ bwS_ge
    show (hd3 b e s).1 ≤ (bwS b e 2 160 (inA b e (hd3 b e s))).1
    refine Nat.le_trans ?_ bwS_ge
    rw [inA_1]
    exact Nat.le_refl _
  exact Nat.le_trans h1 h2
theorem lgD_ge {n : Nat} {s : oTS} : ∀ k, s.1 ≤ (lgD b e n s k).1
  | 0 => Nat.le_refl _
  | k + 1 => Nat.le_trans (lgD_ge k) (Nat.le_trans bwS_ge bwS_ge)
theorem lgS_ge {p : Nat} : p ≤ (lgS b e p).1 := by
  refine Nat.le_trans ?_ (lgD_ge _)
  unfold lgC
  by_cases c : p < e ∧ 16 < b p ∧ b p < 240
  · rw [if_pos c]; exact Nat.le_refl _
  · rw [if_neg c]; exact Nat.le_trans (bwS_ge (s := (p, none))) bwS_ge
theorem rdL_ge {f : oTS → pH → pR Int} (hf : ∀ s h, s.1 ≤ (f s h).1.1) : ∀ c s h, s.1 ≤ (rdL f c s h).1.1
  | 0, s, h => Nat.le_refl _
  | c + 1, s, h => by
    by_cases z : (f s h).1.2 = none
    · have er : rdL f (c + 1) s h = ((rdL f c (f s h).1 (f s h).2.1).1, (rdL f c (f s h).1 (f s h).2.1).2.1, (f s h).2.2 :: (rdL f c (f s h).1 (f s h).2.1).2.2) := if_pos z
      rw [er]; exact Nat.le_trans (hf s h) (rdL_ge hf c _ _)
    · have er : rdL f (c + 1) s h = ((f s h).1, (f s h).2.1, []) := if_neg z
      rw [er]; exact hf s h
theorem rdC2_ge {p c : Nat} {q : pR (List Int)} : q.1.1 ≤ (rdC2 b e p c q).1.1 := by
  unfold rdC2
  by_cases z : q.1.2 = none
  · rw [if_pos z]; exact nmS_ge
  · rw [if_neg z]; exact Nat.le_refl _
theorem rdC_ge {f : oTS → pH → pR Int} (hf : ∀ s h, s.1 ≤ (f s h).1.1) {s : oTS} {h : pH} : s.1 ≤ (rdC b e f s h).1.1 := by
  unfold rdC
  have h1 : s.1 ≤ (bwS b e 0 12 (hdS b e s)).1 := Nat.le_trans hdS_ge bwS_ge
  by_cases z : (bwS b e 0 12 (hdS b e s)).2 = none
  · rw [if_pos z]; exact Nat.le_trans h1 (Nat.le_trans (rdL_ge hf _ _ _) rdC2_ge)
  · rw [if_neg z]; exact h1
theorem rdT_1 {q : pR (List Int)} : (rdT q).1 = q.1 := by
  unfold rdT
  by_cases z : q.1.2 = none
  · rw [if_pos z]; rfl
  · rw [if_neg z]
theorem rdN_1 {s : oTS} {h : pH} {N : Int} : (rdN s h N).1 = s := by
  unfold rdN
  by_cases z : s.2 = none
  · rw [if_pos z]; rfl
  · rw [if_neg z]
theorem rdB_ge {f : oTS → pH → pR Int} (hf : ∀ s h, s.1 ≤ (f s h).1.1) {p : Nat} {h : pH} : p ≤ (rdB b e f p h).1.1 := by
  unfold rdB
  by_cases c1 : b p = 78
  · rw [if_pos c1]; exact Nat.le_succ _
  rw [if_neg c1]
  by_cases c2 : b p = 70
  · rw [if_pos c2]; exact Nat.le_succ _
  rw [if_neg c2]
  by_cases c3 : b p = 84
  · rw [if_pos c3]; exact Nat.le_succ _
  rw [if_neg c3]
  by_cases c4 : b p = 105
  · rw [if_pos c4, rdN_1]; exact Nat.le_trans (Nat.le_succ p) (bwN_ge (s := (p + 1, none)) 4)
  rw [if_neg c4]
  by_cases c5 : b p = 108
  · rw [if_pos c5, rdN_1]; exact Nat.le_trans (Nat.le_succ p) lgS_ge
  rw [if_neg c5]
  by_cases c6 : b p = 40
  · rw [if_pos c6]
    by_cases z : (bwS b e 0 12 (p + 1, none)).2 = none
    · rw [if_pos z, rdT_1]; exact Nat.le_trans (Nat.le_add_right p 2) (rdL_ge hf _ (p + 2, none) _)
    · rw [if_neg z]; exact Nat.le_trans (Nat.le_succ p) (bwS_ge (s := (p + 1, none)))
  rw [if_neg c6]
  by_cases c7 : b p = 99
  · rw [if_pos c7]; exact Nat.le_trans (Nat.le_succ p) (rdC_ge hf (s := (p + 1, none)))
  rw [if_neg c7]; exact Nat.le_refl _
theorem rdO_ge : ∀ k s h, s.1 ≤ (rdO b e k s h).1.1
  | 0, s, h => by show s.1 ≤ (rfS s).1; rw [rfS_1]; exact Nat.le_refl _
  | k + 1, s, h => by
    by_cases z : s.2 = none ∧ s.1 < e
    · have er : rdO b e (k + 1) s h = rdB b e (rdO b e k) s.1 h := if_pos z
      rw [er]; exact rdB_ge (rdO_ge k)
    · have er : rdO b e (k + 1) s h = (rfS s, h, 0) := if_neg z
      rw [er]; show s.1 ≤ (rfS s).1; rw [rfS_1]; exact Nat.le_refl _
theorem bwZ_le1 {s : oTS} (h : s.1 ≤ e) : ∀ k, (bwZ b e s k).1 ≤ e
  | 0 => h
  | k + 1 => bwS_le (bwZ_le1 h k)
theorem nmS_le {s : oTS} (h : s.1 ≤ e) : (nmS b e s).1 ≤ e := nmN_le (bwS_le h) _
theorem hdS_le {s : oTS} (h : s.1 ≤ e) : (hdS b e s).1 ≤ e := by
  have h3 : (hd3 b e s).1 ≤ e := bwS_le (bwS_le (bwS_le h))
  refine bwN_le ?_ _
  refine bwS_le ?_
  show (bwS b e 2 160 (inA b e (hd3 b e s))).1 ≤ e
  exact bwS_le (by rw [inA_1]; exact h3)
theorem lgS_le {p : Nat} (h : p ≤ e) : (lgS b e p).1 ≤ e := by
  refine lgD_le ?_ _
  unfold lgC
  by_cases c : p < e ∧ 16 < b p ∧ b p < 240
  · rw [if_pos c]; exact h
  · rw [if_neg c]; exact bwS_le (bwS_le h)
theorem rdL_le {f : oTS → pH → pR Int} (hf : ∀ s h, s.1 ≤ e → (f s h).1.1 ≤ e) : ∀ c s h, s.1 ≤ e → (rdL f c s h).1.1 ≤ e
  | 0, s, h, hs => hs
  | c + 1, s, h, hs => by
    by_cases z : (f s h).1.2 = none
    · have er : rdL f (c + 1) s h = ((rdL f c (f s h).1 (f s h).2.1).1, (rdL f c (f s h).1 (f s h).2.1).2.1, (f s h).2.2 :: (rdL f c (f s h).1 (f s h).2.1).2.2) := if_pos z
      rw [er]; exact rdL_le hf c _ _ (hf s h hs)
    · have er : rdL f (c + 1) s h = ((f s h).1, (f s h).2.1, []) := if_neg z
      rw [er]; exact hf s h hs
theorem rdC_le {f : oTS → pH → pR Int} (hf : ∀ s h, s.1 ≤ e → (f s h).1.1 ≤ e) {s : oTS} {h : pH} (hs : s.1 ≤ e) : (rdC b e f s h).1.1 ≤ e := by
  unfold rdC
  have h1 : (bwS b e 0 12 (hdS b e s)).1 ≤ e := bwS_le (hdS_le hs)
  by_cases z : (bwS b e 0 12 (hdS b e s)).2 = none
  · rw [if_pos z]
    have h2 := rdL_le hf (b (hdS b e s).1) _ h.bg h1
    unfold rdC2
    by_cases y : (rdL f (b (hdS b e s).1) (bwS b e 0 12 (hdS b e s)) h.bg).1.2 = none
    · rw [if_pos y]; exact nmS_le h2
    · rw [if_neg y]; exact h2
  · rw [if_neg z]; exact h1
theorem rdB_le {f : oTS → pH → pR Int} (hf : ∀ s h, s.1 ≤ e → (f s h).1.1 ≤ e) {p : Nat} {h : pH} (hp : p < e) : (rdB b e f p h).1.1 ≤ e := by
  unfold rdB
  by_cases c1 : b p = 78
  · rw [if_pos c1]; exact hp
  rw [if_neg c1]
  by_cases c2 : b p = 70
  · rw [if_pos c2]; exact hp
  rw [if_neg c2]
  by_cases c3 : b p = 84
  · rw [if_pos c3]; exact hp
  rw [if_neg c3]
  by_cases c4 : b p = 105
  · rw [if_pos c4, rdN_1]; exact bwN_le (s := (p + 1, none)) hp 4
  rw [if_neg c4]
  by_cases c5 : b p = 108
  · rw [if_pos c5, rdN_1]; exact lgS_le hp
  rw [if_neg c5]
  by_cases c6 : b p = 40
  · rw [if_pos c6]
    by_cases z : (bwS b e 0 12 (p + 1, none)).2 = none
    · rw [if_pos z, rdT_1]; exact rdL_le hf _ (p + 2, none) _ (bwS_none z).2.1.1
    · rw [if_neg z]; exact bwS_le (s := (p + 1, none)) hp
  rw [if_neg c6]
  by_cases c7 : b p = 99
  · rw [if_pos c7]; exact rdC_le hf (s := (p + 1, none)) hp
  rw [if_neg c7]; exact Nat.le_of_lt hp
theorem rdO_le : ∀ k s h, s.1 ≤ e → (rdO b e k s h).1.1 ≤ e
  | 0, s, h, hs => by show (rfS s).1 ≤ e; rw [rfS_1]; exact hs
  | k + 1, s, h, hs => by
    by_cases z : s.2 = none ∧ s.1 < e
    · have er : rdO b e (k + 1) s h = rdB b e (rdO b e k) s.1 h := if_pos z
      rw [er]; exact rdB_le (rdO_le k) z.2
    · have er : rdO b e (k + 1) s h = (rfS s, h, 0) := if_neg z
      rw [er]; show (rfS s).1 ≤ e; rw [rfS_1]; exact hs
end RG
