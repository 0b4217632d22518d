/-! the reference: raising within an instruction; NEGATE -/
/-- an instruction's frame that takes j -/
def rIn (C : Nat → xCd) (nc K : Nat) (e : xEn) (st : List Int) (j : Nat) : Prop := xEs1 C nc K e st ∧ (∃ p T, okT (C e.c).1 T ∧ T p = some (st.length, e.b) ∧ xBl T e.b) ∧ flr e.b + j ≤ st.length
section RIn
variable {sp : ox_E} {d mr sr : Nat} {S S' : ox_St} {Q : ox_Q} {m ce a : Nat} {γ : Int → Nat} {B : List Int} {T : Nat} {C : Nat → xCd} {nc K y : Nat} {e : xEn} {q j i : Nat} {st r : List Int} {v u n : Int} {H : xHp} {o : xOb}
theorem rIn.fok (h : rIn C nc K e st j) (hi : i ≤ j) : ∃ z p, xFOk C nc e.H z (e.c, p, st.drop i, e.L, e.b) := by
  obtain ⟨⟨h1, h2, h3, h4⟩, ⟨p, T, t1, t2, t3⟩, h6⟩ := h
  have hl : (st.drop i).length = st.length - i := List.length_drop
  refine ⟨i, p, h1.2.2.2.1, ⟨T, t1, ?_, t3⟩, ?_, fun v hv => h2 v (List.mem_of_mem_drop hv), h1.2.2.2.2.2.1⟩
  · show T p = some ((st.drop i).length + i, e.b)
    rw [hl, Nat.sub_add_cancel (by omega)]; exact t2
  · show flr e.b ≤ (st.drop i).length
    omega
/-- what was taken doesn't matter to an exception -/
theorem xRaise_drop {k c : Nat} {H : xHp} {n : Int} {G : List (Nat × Int)} {L : Nat → Option Int} {b : List (Nat × Nat)} {t : List xFr} (h : flr b + i ≤ st.length) : xRaise k H n G ((c, q, st.drop i, L, b) :: t) = xRaise k H n G ((c, q, st, L, b) :: t) := by
  have : xUnw k ((c, q, st.drop i, L, b) :: t) = xUnw k ((c, q, st, L, b) :: t) := by
    cases b with
    | nil => rfl
    | cons g b =>
      obtain ⟨l, h'⟩ := g
      have h1 : l + i ≤ st.length := h
      show (c, h', (4 + (k : Int)) :: (st.drop i).drop ((st.drop i).length - l), L, b) :: t = (c, h', (4 + (k : Int)) :: st.drop (st.length - l), L, b) :: t
      rw [List.drop_drop, List.length_drop, show i + (st.length - i - l) = st.length - l by omega]
  unfold xRaise
  rw [this]
theorem rIn.t8 (h : rIn C nc K e st j) : e.t.length + 1 ≤ 8 := Nat.succ_le_succ h.1.t7
/-- raise, when i of them are taken -/
theorem r_raise (hsp : ox_mono sp) {k : Nat} (hk : k < 7) (hin : rIn C nc K e st j) (hi : i ≤ j) (h : rE S m ce γ B T C nc y e q (st.drop i)) (hQ : ∀ S', mFx m S S' → S'.R = S.R → rR S' m ce γ B T C nc y (xRaise k e.H e.n e.G ((e.c, q, st, e.L, e.b) :: e.t)) → Q none S') : ox_M sp (d + 2) 177 [.inr (.inr m), .inl (nI k)] mr sr S Q := by
  have hx := hin.1
  refine r_177 (K := K) hsp hk hx.1.1 hx.1.2.1 hx.1.2.2.1 (fs := (e.c, q, st.drop i, e.L, e.b) :: e.t) hin.t8 h (fun g hg => ?_) hx.1.2.2.2.2.2.2 (fun S' a1 a2 a3 => hQ S' a1 a2 ?_)
  · rcases List.mem_cons.mp hg with z | z
    · rw [z]; exact hin.fok hi
    · exact ⟨1, g.2.1, hx.1.2.2.2.2.2.2 g z⟩
  · rw [xRaise_drop (by have := hin.2.2; omega)] at a3
    exact a3
/-- what reckoning leaves behind -/
theorem rE.tmp (h : rE S m ce γ B T C nc y e q st) (hx : xEs1 C nc K e st) (ht : mTmp m S S') : rE S' m ce γ B T C nc y e q st ∧ mFx m S S' ∧ S'.R = S.R := by
  obtain ⟨k1, k2, k3, k4, k5, k6, k7, k8, k9⟩ := ht
  have hce := h.c23
  have fx : mFx m S S' := ⟨k3, k1, k2, k5, k6, fun F a _ => by rw [k4], fun F a z => k8 F a (Or.inl z), fun a z => k9 a (by omega), fun a _ => by rw [k7], fun F z => k8 F m (Or.inr (by omega)), fun p z => k9 (m + p) (by omega), by rw [k7]⟩
  have ch : rCh m ce T e.t.length S S' := ⟨fx, k4, fun F z => k8 F m (Or.inr (by omega)), fun a z => k9 a (by omega), fun j _ => by rw [k9 _ (by omega)], k7, fun f _ => ⟨fun o z1 z2 => by rw [k9 _ (by omega)], fun j _ => by rw [k9 _ (by omega)], fun j _ => by rw [k9 _ (by omega)], fun j _ => by rw [k9 _ (by omega), k9 _ (by omega)]; exact ⟨rfl, rfl⟩⟩⟩
  obtain ⟨f1, f2, f3, f4, f5, f6, f7⟩ := h.2.2.2.1.1
  exact ⟨h.fr hx ch ⟨by rw [k9 _ (by omega)]; exact f1, by rw [k9 _ (by omega)]; exact f2, by rw [k9 _ (by omega)]; exact f3, by rw [k9 _ (by omega)]; exact f4, rStk.row _ (fun j _ => by rw [k9 _ (by omega)]) (fun _ _ => rfl) f5, rLo.row (fun j _ => by rw [k9 _ (by omega)]) (fun _ _ _ => rfl) f6, rBk.row _ (fun j _ => by rw [k9 _ (by omega), k9 _ (by omega)]; exact ⟨rfl, rfl⟩) f7⟩ h.in.1 h.in.2, fx, k4⟩
/-- what an instruction leads to -/
def rX (S' : ox_St) (m ce T : Nat) (C : Nat → xCd) (nc y : Nat) (e : xEn) (q : Nat) (st : List Int) (o : xOut) : Prop := ∃ γ' B' T', T' ≤ T + 19 ∧ rR S' m ce γ' B' T' C nc y (xDone o e.H e.n e.G ((e.c, q, st, e.L, e.b) :: e.t))
theorem rX_k {k : Nat} (h : rR S' m ce γ B T C nc y (xRaise k e.H e.n e.G ((e.c, q, st, e.L, e.b) :: e.t))) : rX S' m ce T C nc y e q st (.inl k) := ⟨γ, B, T, Nat.le_add_right _ _, h⟩
theorem rX_go {q' : Nat} {st' : List Int} (h : rE S' m ce γ B T C nc y e q' st') : rX S' m ce T C nc y e q st (xGo e q' st') := ⟨γ, B, T, Nat.le_add_right _ _, h⟩
/-- give: a new object's first cell is pushed -/
theorem r_give (hsp : ox_mono sp) {γ' : Int → Nat} {B' : List Int} {T' : Nat} (hx : xEs1 C nc K e r) (hl : r.length < 10) (ho : xObOk nc K e.H o) (hT : T' ≤ T + 19) (h : rE S m ce γ' (e.n :: B') T' C nc y (e.nw o) q r) (hQ : ∀ S', mFx m S S' → S'.R = S.R → rX S' m ce T C nc y e q st (xMk e q r o) → Q none S') : ox_M sp (d + 1) 174 [.inr (.inr m), .inl (gV γ' e.n)] mr sr S Q := by
  refine r_174 hsp h (hx.nw ho) hl (Or.inr List.mem_cons_self) (fun S' a1 a2 => hQ S' a1.1 a1.2.1 ⟨γ', e.n :: B', T', hT, a2⟩)
/-- NEGATE -/
theorem r_202 (hsp : ox_mono sp) (hin : rIn C nc K e (v :: r) 1) (h : rE S m ce γ B T C nc y e q (v :: r)) (hT : T + 19 ≤ 1100000) (hQ : ∀ S', mFx m S S' → S'.R = S.R → rX S' m ce T C nc y e q (v :: r) (match xNum e.H v with
    | some N => xMk e q r (.inl (-N))
    | none => .inl 0) → Q none S') : ox_M sp (d + 4) 202 [.inr (.inr m)] mr sr S Q := by
  have hE : ox_mono (ox_M sp (d + 3)) := ox_M_mono hsp _
  have hx := hin.1
  have s10 : r.length + 1 ≤ 10 := hx.2.2.1
  refine f_202 hsp ⟨by decide, h.k, by decide, 0, 0, Nat.zero_le _, Nat.zero_le _, r_175 hsp h hx (fun S1 a1 a2 hB => f_202_4 hE ⟨by decide, a2.k, by decide, 0, 0, Nat.zero_le _, Nat.zero_le _, r_135 hsp a2 hx.tail hx.head hB (f_202_10 hE ?_)⟩)⟩
  cases hN : xNum e.H v with
  | none =>
    rw [hN] at hQ
    refine ⟨fun _ => ⟨by decide, a2.k, by decide, 0, 0, Nat.zero_le _, Nat.zero_le _, ?_⟩, fun z => absurd (if_pos rfl) z⟩
    exact r_raise hsp (k := 0) (i := 1) (by decide) hin (Nat.le_refl _) a2 (fun S' b1 b2 b3 => f_202_32 hE ⟨rfl, hQ S' (a1.1.trans b1) (b2.trans a1.2.1) (rX_k b3)⟩)
  | some N =>
    rw [hN] at hQ
    dsimp only at hQ
    obtain ⟨u, f, n, neg, g1, g2, g3, g4, g5⟩ := a2.num hx.tail hB hN
    refine ⟨fun z => absurd z (by rw [if_neg (fun w => by cases w)]; decide), fun _ => ⟨by decide, a2.k, by decide, 0, 0, Nat.zero_le _, Nat.zero_le _, ?_⟩⟩
    rw [g1]
    have pn : neg = 0 ∨ neg = 1 := by
      rcases g2.2.2 with z | z
      · exact Or.inl z.2.1
      · exact z.2.2.2.2.1
    have m0 : mNum S1 (m + ce) 1 (fun _ => 0) 0 0 := ⟨fun i hi => absurd hi (Nat.not_lt_zero _), by omega, Or.inl ⟨by omega, rfl, Or.inl ⟨rfl, rfl⟩⟩⟩
    have val : nv (fun _ => 0) 0 0 + (if neg = 1 then (dv f n : Int) else -(dv f n : Int)) = -N := by
      have z0 : nv (fun _ => 0) 0 0 = 0 := rfl
      rw [z0, ← g5]
      unfold nv
      rcases pn with z | z
      · rw [if_neg (by rw [z]; decide), if_pos z]; omega
      · rw [if_pos z, if_neg (by rw [z]; decide)]; omega
    have T16 : 16 ≤ T := a2.2.1.1.2.2.2.1
    have okN : N.natAbs < 32768 ^ 16 := by
      have lt := dv_lt n g3.1
      have n16 := g2.2.1
      have b16 : dv f n < 32768 ^ 16 := Nat.lt_of_lt_of_le lt (Nat.pow_le_pow_right (by decide) n16)
      unfold nv at g5
      rcases pn with z | z
      · rw [if_pos z] at g5; omega
      · rw [if_neg (by rw [z]; decide)] at g5; omega
    refine s_144 hsp (T := T) (u := 1) (v := u) a2.ml a2.2.1.2 T16 hT m0 g2 ⟨fun i hi => absurd hi (Nat.not_lt_zero _), fun z => absurd z (Nat.lt_irrefl _)⟩ g3 (Or.inr rfl) (fun S2 w c p e1 e2 e3 e4 e5 e6 => f_202_21 hE ⟨by decide, ?_, by decide, 0, 0, Nat.zero_le _, Nat.zero_le _, ?_⟩) (fun S2 _ z => ?_)
    · rw [e1.1]; exact a2.k
    · rw [val] at e6
      obtain ⟨n1, n2, n3⟩ := a2.num1 hx.tail e1 e2 e3 e4 e5 e6 hT
      have c16 : c ≤ 16 := e3.2.1
      have hT' : T + xSz (.inl (-N)) ≤ T + 19 := by show T + (3 + dl 16 (-N).natAbs) ≤ _; have := dl_le 16 (-N).natAbs; omega
      have eg : gV (upA γ e.n T) e.n = nI T := by
        unfold gV
        rw [if_neg (by have := hx.1.1.1; omega), show upA γ e.n T e.n = T from if_pos rfl]
      refine f_178 hsp ⟨fun _ => ⟨by decide, n1.k, by decide, 0, 0, Nat.zero_le _, Nat.zero_le _, ?_⟩, fun z => absurd z (nI_m1 (by omega))⟩
      rw [← eg]
      exact r_give (o := .inl (-N)) (st := v :: r) hsp hx.tail (by omega) (by show (-N).natAbs < _; rw [Int.natAbs_neg]; exact okN) hT' n1 (fun S' b1 b2 b3 => f_178_19 (ox_M_mono hsp _) ⟨rfl, f_202_24 hE (f_202_32 hE ⟨rfl, hQ S' (a1.1.trans (n2.trans b1)) (b2.trans (n3.trans a1.2.1)) b3⟩)⟩)
    · rw [val, Int.natAbs_neg] at z
      omega
end RIn
