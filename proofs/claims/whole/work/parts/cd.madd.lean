/-! the reference: MUL, MOD, ADD, SUB, DIV -/
section RAd
variable {sp : ox_E} {d mr sr : Nat} {S S' S2 : ox_St} {Q : ox_Q} {m ce a : Nat} {γ : Int → Nat} {B : List Int} {T : Nat} {C : Nat → xCd} {nc K y : Nat} {e : xEn} {q j i : Nat} {st r : List Int} {v u n : Int} {H : xHp} {o : xOb}
theorem rE.tup_iff (h : rE S m ce γ B T C nc y e q st) (hx : xEs1 C nc K e st) (ok : xOk nc e.H v) (hB : xIn B v) : mSort S m ce (gV γ v) = 4 ↔ ∃ l k, e.H v = some (.inr (.inl (l, k))) := by
  obtain ⟨h1, h2⟩ := h.sort hx ok hB
  rw [h2]
  constructor
  · intro z
    by_cases v16 : v < 16
    · rw [if_pos v16] at z; exact absurd z (by decide)
    · rw [if_neg v16] at z
      obtain ⟨o, e1, -⟩ := h.hi hB v16
      rw [xTg_o (by omega) e1] at z
      match o, e1, z with
      | .inl _, _, z => exact absurd (show Int32.ofInt 3 = 4 from z) (by decide)
      | .inr (.inl (l, k)), e1, _ => exact ⟨l, k, e1⟩
      | .inr (.inr (.inl _)), _, z => exact absurd (show Int32.ofInt 5 = 4 from z) (by decide)
      | .inr (.inr (.inr (.inl _))), _, z => exact absurd (show Int32.ofInt 6 = 4 from z) (by decide)
      | .inr (.inr (.inr (.inr _))), _, z => exact absurd (show Int32.ofInt 7 = 4 from z) (by decide)
  · rintro ⟨l, k, e1⟩
    have h16 := (hx.1.1.2 v _ e1).1
    rw [if_neg (by omega), xTg_o h16 e1]
    rfl
theorem r_134 (hsp : ox_mono sp) (h : rE S m ce γ B T C nc y e q st) (hx : xEs1 C nc K e st) (ok : xOk nc e.H v) (hB : xIn B v) (hQ1 : ∀ l k, e.H v = some (.inr (.inl (l, k))) → Q (some (.inl 1)) S) (hQ0 : xTup e.H v = none → Q (some (.inl 0)) S) : ox_M sp (d + 2) 134 [.inr (.inr m), .inl (gV γ v)] mr sr S Q := by
  have iff := h.tup_iff hx ok hB
  refine s_134 hsp h.ml (h.sort hx ok hB).1 ?_
  by_cases z : mSort S m ce (gV γ v) = 4
  · rw [if_pos z]
    obtain ⟨l, k, e1⟩ := iff.mp z
    exact hQ1 l k e1
  · rw [if_neg z]
    refine hQ0 ?_
    unfold xTup
    cases e1 : e.H v with
    | none => rfl
    | some o =>
      match o, e1 with
      | .inl _, _ => rfl
      | .inr (.inl (l, k)), e1 => exact absurd (iff.mpr ⟨l, k, e1⟩) z
      | .inr (.inr _), _ => rfl
/-- arithmetic -/
theorem r_183 (hsp : ox_mono sp) {w : Nat} (hw : w = 20 ∨ w = 22 ∨ w = 23 ∨ w = 24 ∨ w = 26) (hin : rIn C nc K e (u :: v :: r) 2) (h : rE S m ce γ B T C nc y e q (u :: v :: r)) (hT : T + 19 ≤ 1100000) (hQ : ∀ S', mFx m S S' → S'.R = S.R → rX S' m ce T C nc y e q (u :: v :: r) (if w = 23 then xAdd e q r v u else xAri e q w r v u) → Q none S') : ox_M sp (d + 6) 183 [.inr (.inr m), .inl (nI w)] mr sr S Q := by
  have hE : ox_mono (ox_M sp (d + 5)) := ox_M_mono hsp _
  have hx0 := hin.1
  have hx1 := hx0.tail
  have hx := hx1.tail
  have oku : xOk nc e.H u := hx0.head
  have okv : xOk nc e.H v := hx1.head
  refine f_183 hsp ⟨by decide, h.k, by decide, 0, 0, Nat.zero_le _, Nat.zero_le _, r_175 hsp h hx0 (fun S1 a1 a2 hBu => f_183_4 hE ⟨by decide, a2.k, by decide, 0, 0, Nat.zero_le _, Nat.zero_le _, r_175 hsp a2 hx1 (fun S2 b1 b2 hBv => f_183_9 hE ?_)⟩)⟩
  have fx : mFx m S S2 := a1.1.trans b1.1
  have eR : S2.R = S.R := b1.2.1.trans a1.2.1
  have num : ∀ mr sr, (if w = 23 then xAdd e q r v u else xAri e q w r v u) = xAri e q w r v u → c_183_41 (ox_M sp (d + 5)) m (nI w) (gV γ u) (gV γ v) S2 mr sr Q := fun mr sr er => by
    rw [er] at hQ
    exact r_183_41 (d := d + 1) hsp hw hin b2 hBu hBv hT (fun S' c1 c2 c3 => hQ S' (fx.trans c1) (c2.trans eR) c3)
  have iff : nI w = 23 ↔ w = 23 := nI_eq (b := 23) (by omega) (by decide)
  refine ⟨fun z => num _ _ (if_neg (fun x => z (iff.mpr x))), fun z => ⟨by decide, b2.k, by decide, 0, 0, Nat.zero_le _, Nat.zero_le _, ?_⟩⟩
  have w23 : w = 23 := iff.mp z
  subst w23
  have add0 : ∀ (hn : xTup e.H v = none ∨ xTup e.H u = none), (if 23 = 23 then xAdd e q r v u else xAri e q 23 r v u) = xAri e q 23 r v u := fun hn => by
    rw [if_pos rfl]
    unfold xAdd
    rcases hn with x | x
    · rw [x]
    · rw [x]
      cases xTup e.H v <;> rfl
  refine r_134 hsp b2 hx okv hBv (fun lv kv ev => f_183_21 hE ⟨fun x => absurd x (by decide), fun _ => ⟨by decide, b2.k, by decide, 0, 0, Nat.zero_le _, Nat.zero_le _, ?_⟩⟩) (fun n0 => f_183_21 hE ⟨fun _ => num _ _ (add0 (Or.inl n0)), fun x => absurd rfl x⟩)
  refine r_134 hsp b2 hx oku hBu (fun lu ku eu => f_183_29 hE ⟨fun x => absurd x (by decide), fun _ => ⟨by decide, b2.k, by decide, 0, 0, Nat.zero_le _, Nat.zero_le _, ?_⟩⟩) (fun n0 => f_183_29 hE ⟨fun _ => num _ _ (add0 (Or.inr n0)), fun x => absurd rfl x⟩)
  have ea : xAdd e q r v u = (if 12 < lv.length + lu.length then .inl 6 else xMk e q r (.inr (.inl (lv ++ lu, xMax e.H (lv ++ lu) + 1)))) := by
    unfold xAdd xTup
    rw [ev, eu]
  rw [if_pos rfl, ea] at hQ
  exact r_184 hsp hin b2 hBu hBv hT ev eu (fun S' c1 c2 c3 => f_183_38 hE (f_183_157 hE ⟨rfl, hQ S' (fx.trans c1) (c2.trans eR) c3⟩))
end RAd
