/-! the reference: give -/
section RGv
variable {sp : ox_E} {d mr sr : Nat} {S S' S2 : ox_St} {Q : ox_Q} {m ce a : Nat} {γ : Int → Nat} {B : List Int} {T : Nat} {C : Nat → xCd} {nc K y : Nat} {e : xEn} {q j i : Nat} {st r : List Int} {v u n : Int} {H : xHp} {o : xOb}
theorem nv_abs {w : Nat → Nat} {c : Nat} {p : Int32} {N : Int} (hN : nv w c p = N) : N.natAbs = dv w c := by
  unfold nv at hN
  by_cases z : p = 0
  · rw [if_pos z] at hN; omega
  · rw [if_neg z] at hN; omega
theorem mNum.sg {w : Nat → Nat} {c t : Nat} {p : Int32} (h : mNum S a t w c p) : p = 0 ∨ p = 1 := by
  rcases h.2.2 with z | z
  · exact Or.inl z.2.1
  · exact z.2.2.2.2.1
theorem mNum.abs {w : Nat → Nat} {c t : Nat} {p : Int32} {N : Int} (h : mNum S a t w c p) (hd : dc w c) (hN : nv w c p = N) : N.natAbs < 32768 ^ 16 := by
  rw [nv_abs hN]
  exact Nat.lt_of_lt_of_le (dv_lt c hd.1) (Nat.pow_le_pow_right (by decide) h.2.1)
theorem mNum.sgI {w : Nat → Nat} {c t : Nat} {p : Int32} {N : Int} (h : mNum S a t w c p) (hd : dc w c) (h0 : c = 0 → p = 0) (hN : nv w c p = N) : sgI N = p := (nv_dg hd h.2.1 h.sg h0 hN).1
/-- give, with a number -/
theorem r_178a (hsp : ox_mono sp) (h : rE S m ce γ B T C nc y e q r) (hx : xEs1 C nc K e r) (hl : r.length < 10) (hT : T + 19 ≤ 1100000) {w : Nat → Nat} {c : Nat} {p : Int32} {N : Int} (e1 : mNw m ce T S S2) (e2 : S2.I 75 m = nI (T + 3 + c)) (e3 : mNum S2 (m + ce) T w c p) (e4 : dc w c) (e5 : c = 0 → p = 0) (e6 : nv w c p = N) (hQ : ∀ S', mFx m S S' → S'.R = S.R → rX S' m ce T C nc y e q st (xGive e q r N) → Q none S') : ox_M sp (d + 2) 178 [.inr (.inr m), .inl (nI T)] mr sr S2 Q := by
  obtain ⟨n1, n2, n3⟩ := h.num1 hx e1 e2 e3 e4 e5 e6 hT
  have okN := e3.abs e4 e6
  have hT' : T + xSz (.inl N) ≤ T + 19 := by show T + (3 + dl 16 N.natAbs) ≤ _; have := dl_le 16 N.natAbs; omega
  have eg : gV (upA γ e.n T) e.n = nI T := by
    unfold gV
    rw [if_neg (by have := hx.1.1.1; omega), show upA γ e.n T e.n = T from if_pos rfl]
  have gv : xGive e q r N = xMk e q r (.inl N) := if_pos okN
  rw [gv] at hQ
  refine f_178 hsp ⟨fun _ => ⟨by decide, n1.k, by decide, 0, 0, Nat.zero_le _, Nat.zero_le _, ?_⟩, fun z => absurd z (nI_m1 (by omega))⟩
  rw [← eg]
  exact r_give (o := .inl N) (st := st) hsp hx hl okN hT' n1 (fun S' b1 b2 b3 => f_178_19 (ox_M_mono hsp _) ⟨rfl, hQ S' (n2.trans b1) (b2.trans n3) b3⟩)
/-- give, with none -/
theorem r_178b (hsp : ox_mono sp) (hin : rIn C nc K e st j) (hi : i ≤ j) (h : rE S m ce γ B T C nc y e q (st.drop i)) {N : Int} (ht : mTmp m S S2) (hN : 32768 ^ 16 ≤ N.natAbs) {r' : List Int} (hQ : ∀ S', mFx m S S' → S'.R = S.R → rX S' m ce T C nc y e q st (xGive e q r' N) → Q none S') : ox_M sp (d + 3) 178 [.inr (.inr m), .inl (-1)] mr sr S2 Q := by
  have hE : ox_mono (ox_M sp (d + 2)) := ox_M_mono hsp _
  have hxd : xEs1 C nc K e (st.drop i) := ⟨hin.1.1, fun u hu => hin.1.2.1 u (List.mem_of_mem_drop hu), by rw [List.length_drop]; have := hin.1.2.2.1; omega, hin.1.2.2.2⟩
  obtain ⟨n1, n2, n3⟩ := h.tmp hxd ht
  have gv : xGive e q r' N = .inl 6 := if_neg (by omega)
  rw [gv] at hQ
  exact f_178 hsp ⟨fun z => absurd rfl z, fun _ => ⟨by decide, n1.k, by decide, 0, 0, Nat.zero_le _, Nat.zero_le _, r_raise hsp (k := 6) (by decide) hin hi n1 (fun S' b1 b2 b3 => f_178_11 hE (f_178_19 hE ⟨rfl, hQ S' (n2.trans b1) (b2.trans n3) (rX_k b3)⟩))⟩⟩
end RGv
