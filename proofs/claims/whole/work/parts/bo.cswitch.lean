/-! printed by gen/gbo.py: one instruction of the class, behind the switch -/
theorem ls1 {st : List Int} (h : 1 ≤ st.length) : ∃ v r, st = v :: r := by
  match st, h with
  | v :: r, _ => exact ⟨v, r, rfl⟩
theorem ls2 {st : List Int} (h : 2 ≤ st.length) : ∃ u v r, st = u :: v :: r := by
  match st, h with
  | u :: v :: r, _ => exact ⟨u, v, r, rfl⟩
  | [_], h => exact absurd h (by simp)
theorem ls3 {st : List Int} (h : 3 ≤ st.length) : ∃ u v z r, st = u :: v :: z :: r := by
  match st, h with
  | u :: v :: z :: r, _ => exact ⟨u, v, z, r, rfl⟩
  | [_], h => exact absurd h (by simp)
  | [_, _], h => exact absurd h (by simp)
section CSw
variable {d mr sr : Nat} {S : ox_St} {Q : ox_Q} {x : Nat} {α : Int → Nat} {C : Nat → xCd} {nc K : Nat} {e : xEn} {q : Nat} {st : List Int}
theorem c_85_1 {a t : Nat} (hsp : ox_mono lw_sp) (hK : K < 2 ^ 31) (h : cE S x α C nc e q st) (hx : xEs1 C nc K e st) (htk : tkW 1 a = some t) (hl : t ≤ st.length) (hg : st.length - t + gvW 1 a ≤ 10) (hag : agW (C e.c).1 1 a) (hb : 1 = 122 → e.b.length < 4) (hb2 : 1 = 87 → e.b ≠ []) (hm : 2 ≤ mr) (hs : 20 ≤ sr) (hQ : ∀ S' α' y, cN x S S' → cX S' x α' C nc e q st (xIns C e q 1 a st) y → Q (some (.inl y)) S') : c_47_106 (ox_M lw_sp (d + 15)) (x + 11) (x + 28 + 5 * e.t.length) (nI 1) (nI a) S mr sr Q := by
  have hE : ox_mono (ox_M lw_sp (d + 15)) := ox_M_mono hsp _
  have et : t = 1 := (Option.some.inj (show some 1 = some t from htk)).symm
  have hg1 : st.length - t + 0 ≤ 10 := hg
  have s10 := hx.2.2.1
  obtain ⟨v, r, rfl⟩ := ls1 (st := st) (by omega)
  simp only [List.length_cons] at hg1 hl s10
  have hQ1 : ∀ S' α' y, cN x S S' → cX S' x α' C nc e q (v :: r) (xGo e q r) y → Q (some (.inl y)) S' := hQ
  refine f_47_106 hE ?_
  unfold q_47_106
  rw [nI_toInt (show 1 < 2 ^ 31 by decide)]
  refine ⟨fun _ => ?_, fun z => absurd rfl z⟩
  exact f_47_648 hE ⟨by decide, by decide, 0, 0, Nat.zero_le _, Nat.zero_le _, c_51_1 hsp h hx (fun S' n1 n2 => f_47_653 hE ⟨trivial, hQ1 S' α (-1) n1 (cX_go n2)⟩)⟩
theorem c_85_2 {a t : Nat} (hsp : ox_mono lw_sp) (hK : K < 2 ^ 31) (h : cE S x α C nc e q st) (hx : xEs1 C nc K e st) (htk : tkW 2 a = some t) (hl : t ≤ st.length) (hg : st.length - t + gvW 2 a ≤ 10) (hag : agW (C e.c).1 2 a) (hb : 2 = 122 → e.b.length < 4) (hb2 : 2 = 87 → e.b ≠ []) (hm : 2 ≤ mr) (hs : 20 ≤ sr) (hQ : ∀ S' α' y, cN x S S' → cX S' x α' C nc e q st (xIns C e q 2 a st) y → Q (some (.inl y)) S') : c_47_106 (ox_M lw_sp (d + 15)) (x + 11) (x + 28 + 5 * e.t.length) (nI 2) (nI a) S mr sr Q := by
  have hE : ox_mono (ox_M lw_sp (d + 15)) := ox_M_mono hsp _
  have et : t = 2 := (Option.some.inj (show some 2 = some t from htk)).symm
  have hg1 : st.length - t + 2 ≤ 10 := hg
  have s10 := hx.2.2.1
  obtain ⟨u, v, r, rfl⟩ := ls2 (st := st) (by omega)
  simp only [List.length_cons] at hg1 hl s10
  have hQ1 : ∀ S' α' y, cN x S S' → cX S' x α' C nc e q (u :: v :: r) (xGo e q (v :: u :: r)) y → Q (some (.inl y)) S' := hQ
  refine f_47_106 hE ?_
  unfold q_47_106
  rw [nI_toInt (show 2 < 2 ^ 31 by decide)]
  refine ⟨fun z => absurd z (by decide), fun _ => ?_⟩
  refine ⟨fun _ => ?_, fun z => absurd rfl z⟩
  exact f_47_648 hE ⟨by decide, by decide, 0, 0, Nat.zero_le _, Nat.zero_le _, c_51_2 hsp h hx (fun S' n1 n2 => f_47_653 hE ⟨trivial, hQ1 S' α (-1) n1 (cX_go n2)⟩)⟩
theorem c_85_3 {a t : Nat} (hsp : ox_mono lw_sp) (hK : K < 2 ^ 31) (h : cE S x α C nc e q st) (hx : xEs1 C nc K e st) (htk : tkW 3 a = some t) (hl : t ≤ st.length) (hg : st.length - t + gvW 3 a ≤ 10) (hag : agW (C e.c).1 3 a) (hb : 3 = 122 → e.b.length < 4) (hb2 : 3 = 87 → e.b ≠ []) (hm : 2 ≤ mr) (hs : 20 ≤ sr) (hQ : ∀ S' α' y, cN x S S' → cX S' x α' C nc e q st (xIns C e q 3 a st) y → Q (some (.inl y)) S') : c_47_106 (ox_M lw_sp (d + 15)) (x + 11) (x + 28 + 5 * e.t.length) (nI 3) (nI a) S mr sr Q := by
  have hE : ox_mono (ox_M lw_sp (d + 15)) := ox_M_mono hsp _
  have et : t = 3 := (Option.some.inj (show some 3 = some t from htk)).symm
  have hg1 : st.length - t + 3 ≤ 10 := hg
  have s10 := hx.2.2.1
  obtain ⟨u, v, z, r, rfl⟩ := ls3 (st := st) (by omega)
  simp only [List.length_cons] at hg1 hl s10
  have hQ1 : ∀ S' α' y, cN x S S' → cX S' x α' C nc e q (u :: v :: z :: r) (xGo e q (v :: z :: u :: r)) y → Q (some (.inl y)) S' := hQ
  refine f_47_106 hE ?_
  unfold q_47_106
  rw [nI_toInt (show 3 < 2 ^ 31 by decide)]
  refine ⟨fun z => absurd z (by decide), fun _ => ?_⟩
  refine ⟨fun z => absurd z (by decide), fun _ => ?_⟩
  refine ⟨fun _ => ?_, fun z => absurd rfl z⟩
  exact f_47_648 hE ⟨by decide, by decide, 0, 0, Nat.zero_le _, Nat.zero_le _, c_51_3 hsp h hx (fun S' n1 n2 => f_47_653 hE ⟨trivial, hQ1 S' α (-1) n1 (cX_go n2)⟩)⟩
theorem c_85_4 {a t : Nat} (hsp : ox_mono lw_sp) (hK : K < 2 ^ 31) (h : cE S x α C nc e q st) (hx : xEs1 C nc K e st) (htk : tkW 4 a = some t) (hl : t ≤ st.length) (hg : st.length - t + gvW 4 a ≤ 10) (hag : agW (C e.c).1 4 a) (hb : 4 = 122 → e.b.length < 4) (hb2 : 4 = 87 → e.b ≠ []) (hm : 2 ≤ mr) (hs : 20 ≤ sr) (hQ : ∀ S' α' y, cN x S S' → cX S' x α' C nc e q st (xIns C e q 4 a st) y → Q (some (.inl y)) S') : c_47_106 (ox_M lw_sp (d + 15)) (x + 11) (x + 28 + 5 * e.t.length) (nI 4) (nI a) S mr sr Q := by
  have hE : ox_mono (ox_M lw_sp (d + 15)) := ox_M_mono hsp _
  have et : t = 1 := (Option.some.inj (show some 1 = some t from htk)).symm
  have hg1 : st.length - t + 2 ≤ 10 := hg
  have s10 := hx.2.2.1
  obtain ⟨v, r, rfl⟩ := ls1 (st := st) (by omega)
  simp only [List.length_cons] at hg1 hl s10
  have hQ1 : ∀ S' α' y, cN x S S' → cX S' x α' C nc e q (v :: r) (xGo e q (v :: v :: r)) y → Q (some (.inl y)) S' := hQ
  refine f_47_106 hE ?_
  unfold q_47_106
  rw [nI_toInt (show 4 < 2 ^ 31 by decide)]
  refine ⟨fun z => absurd z (by decide), fun _ => ?_⟩
  refine ⟨fun z => absurd z (by decide), fun _ => ?_⟩
  refine ⟨fun z => absurd z (by decide), fun _ => ?_⟩
  refine ⟨fun _ => ?_, fun z => absurd rfl z⟩
  exact f_47_648 hE ⟨by decide, by decide, 0, 0, Nat.zero_le _, Nat.zero_le _, c_51_4 hsp h hx (by omega) (fun S' n1 n2 => f_47_653 hE ⟨trivial, hQ1 S' α (-1) n1 (cX_go n2)⟩)⟩
theorem c_85_11 {a t : Nat} (hsp : ox_mono lw_sp) (hK : K < 2 ^ 31) (h : cE S x α C nc e q st) (hx : xEs1 C nc K e st) (htk : tkW 11 a = some t) (hl : t ≤ st.length) (hg : st.length - t + gvW 11 a ≤ 10) (hag : agW (C e.c).1 11 a) (hb : 11 = 122 → e.b.length < 4) (hb2 : 11 = 87 → e.b ≠ []) (hm : 2 ≤ mr) (hs : 20 ≤ sr) (hQ : ∀ S' α' y, cN x S S' → cX S' x α' C nc e q st (xIns C e q 11 a st) y → Q (some (.inl y)) S') : c_47_106 (ox_M lw_sp (d + 15)) (x + 11) (x + 28 + 5 * e.t.length) (nI 11) (nI a) S mr sr Q := by
  have hE : ox_mono (ox_M lw_sp (d + 15)) := ox_M_mono hsp _
  have et : t = 1 := (Option.some.inj (show some 1 = some t from htk)).symm
  have hg1 : st.length - t + 1 ≤ 10 := hg
  have s10 := hx.2.2.1
  obtain ⟨v, r, rfl⟩ := ls1 (st := st) (by omega)
  simp only [List.length_cons] at hg1 hl s10
  have hQ1 : ∀ S' α' y, cN x S S' → cX S' x α' C nc e q (v :: r) ((match xNum e.H v with
      | some N => xMk e q r (.inl (-N))
      | none => .inl 0)) y → Q (some (.inl y)) S' := hQ
  refine f_47_106 hE ?_
  unfold q_47_106
  rw [nI_toInt (show 11 < 2 ^ 31 by decide)]
  refine ⟨fun z => absurd z (by decide), fun _ => ?_⟩
  refine ⟨fun z => absurd z (by decide), fun _ => ?_⟩
  refine ⟨fun z => absurd z (by decide), fun _ => ?_⟩
  refine ⟨fun z => absurd z (by decide), fun _ => ?_⟩
  refine ⟨fun z => absurd z (by decide), fun _ => ?_⟩
  refine ⟨fun z => absurd z (by decide), fun _ => ?_⟩
  refine ⟨fun z => absurd z (by decide), fun _ => ?_⟩
  refine ⟨fun z => absurd z (by decide), fun _ => ?_⟩
  refine ⟨fun z => absurd z (by decide), fun _ => ?_⟩
  refine ⟨fun z => absurd z (by decide), fun _ => ?_⟩
  refine ⟨fun _ => ?_, fun z => absurd rfl z⟩
  exact ⟨by decide, h.k7, by decide, 2, 20, hm, hs, c_57 h hx (Nat.le_refl _) (Nat.le_refl _) (fun S' α' y n1 n2 => f_47_659 hE ⟨trivial, hQ1 S' α' y n1 n2⟩)⟩
theorem c_85_12 {a t : Nat} (hsp : ox_mono lw_sp) (hK : K < 2 ^ 31) (h : cE S x α C nc e q st) (hx : xEs1 C nc K e st) (htk : tkW 12 a = some t) (hl : t ≤ st.length) (hg : st.length - t + gvW 12 a ≤ 10) (hag : agW (C e.c).1 12 a) (hb : 12 = 122 → e.b.length < 4) (hb2 : 12 = 87 → e.b ≠ []) (hm : 2 ≤ mr) (hs : 20 ≤ sr) (hQ : ∀ S' α' y, cN x S S' → cX S' x α' C nc e q st (xIns C e q 12 a st) y → Q (some (.inl y)) S') : c_47_106 (ox_M lw_sp (d + 15)) (x + 11) (x + 28 + 5 * e.t.length) (nI 12) (nI a) S mr sr Q := by
  have hE : ox_mono (ox_M lw_sp (d + 15)) := ox_M_mono hsp _
  have et : t = 1 := (Option.some.inj (show some 1 = some t from htk)).symm
  have hg1 : st.length - t + 1 ≤ 10 := hg
  have s10 := hx.2.2.1
  obtain ⟨v, r, rfl⟩ := ls1 (st := st) (by omega)
  simp only [List.length_cons] at hg1 hl s10
  have hQ1 : ∀ S' α' y, cN x S S' → cX S' x α' C nc e q (v :: r) (xGo e q ((if xFalse e.H v = true then 2 else 1) :: r)) y → Q (some (.inl y)) S' := hQ
  refine f_47_106 hE ?_
  unfold q_47_106
  rw [nI_toInt (show 12 < 2 ^ 31 by decide)]
  refine ⟨fun z => absurd z (by decide), fun _ => ?_⟩
  refine ⟨fun z => absurd z (by decide), fun _ => ?_⟩
  refine ⟨fun z => absurd z (by decide), fun _ => ?_⟩
  refine ⟨fun z => absurd z (by decide), fun _ => ?_⟩
  refine ⟨fun z => absurd z (by decide), fun _ => ?_⟩
  refine ⟨fun z => absurd z (by decide), fun _ => ?_⟩
  refine ⟨fun z => absurd z (by decide), fun _ => ?_⟩
  refine ⟨fun z => absurd z (by decide), fun _ => ?_⟩
  refine ⟨fun z => absurd z (by decide), fun _ => ?_⟩
  refine ⟨fun z => absurd z (by decide), fun _ => ?_⟩
  refine ⟨fun z => absurd z (by decide), fun _ => ?_⟩
  refine ⟨fun _ => ?_, fun z => absurd rfl z⟩
  refine ⟨by decide, (h.oF hx).1, by decide, 0, 0, Nat.zero_le _, Nat.zero_le _, c_top hsp h hx (fun hv => f_47_668 hE ⟨by decide, by decide, 0, 0, Nat.zero_le _, Nat.zero_le _, c_55 hsp h hx hv hx.head (f_47_671 hE ⟨by decide, h.k7, by decide, 0, 0, Nat.zero_le _, Nat.zero_le _, s_54 hsp h.1.1 (f_47_674 hE ⟨by decide, by decide, 0, 0, Nat.zero_le _, Nat.zero_le _, ?_⟩)⟩)⟩)⟩
  by_cases z : xFalse e.H v = true
  · rw [if_pos z] at hQ1
    rw [if_pos z, if_neg (by decide)]
    exact c_rep hsp h hx (i := 1) (by simp) (by simp only [List.length_cons]; omega) h.v2 (xSm (by decide) (by decide)) (fun S' n1 n2 => f_47_677 hE ⟨trivial, hQ1 S' α (-1) n1 (cX_go n2)⟩)
  · rw [if_neg z] at hQ1
    rw [if_neg z, if_pos (by decide)]
    exact c_rep hsp h hx (i := 1) (by simp) (by simp only [List.length_cons]; omega) h.v1 (xSm (by decide) (by decide)) (fun S' n1 n2 => f_47_677 hE ⟨trivial, hQ1 S' α (-1) n1 (cX_go n2)⟩)
theorem c_85_20 {a t : Nat} (hsp : ox_mono lw_sp) (hK : K < 2 ^ 31) (h : cE S x α C nc e q st) (hx : xEs1 C nc K e st) (htk : tkW 20 a = some t) (hl : t ≤ st.length) (hg : st.length - t + gvW 20 a ≤ 10) (hag : agW (C e.c).1 20 a) (hb : 20 = 122 → e.b.length < 4) (hb2 : 20 = 87 → e.b ≠ []) (hm : 2 ≤ mr) (hs : 20 ≤ sr) (hQ : ∀ S' α' y, cN x S S' → cX S' x α' C nc e q st (xIns C e q 20 a st) y → Q (some (.inl y)) S') : c_47_106 (ox_M lw_sp (d + 15)) (x + 11) (x + 28 + 5 * e.t.length) (nI 20) (nI a) S mr sr Q := by
  have hE : ox_mono (ox_M lw_sp (d + 15)) := ox_M_mono hsp _
  have et : t = 2 := (Option.some.inj (show some 2 = some t from htk)).symm
  have hg1 : st.length - t + 1 ≤ 10 := hg
  have s10 := hx.2.2.1
  obtain ⟨u, v, r, rfl⟩ := ls2 (st := st) (by omega)
  simp only [List.length_cons] at hg1 hl s10
  have hQ1 : ∀ S' α' y, cN x S S' → cX S' x α' C nc e q (u :: v :: r) (xAri e q 20 r v u) y → Q (some (.inl y)) S' := hQ
  refine f_47_106 hE ?_
  unfold q_47_106
  rw [nI_toInt (show 20 < 2 ^ 31 by decide)]
  refine ⟨fun z => absurd z (by decide), fun _ => ?_⟩
  refine ⟨fun z => absurd z (by decide), fun _ => ?_⟩
  refine ⟨fun z => absurd z (by decide), fun _ => ?_⟩
  refine ⟨fun z => absurd z (by decide), fun _ => ?_⟩
  refine ⟨fun z => absurd z (by decide), fun _ => ?_⟩
  refine ⟨fun z => absurd z (by decide), fun _ => ?_⟩
  refine ⟨fun z => absurd z (by decide), fun _ => ?_⟩
  refine ⟨fun z => absurd z (by decide), fun _ => ?_⟩
  refine ⟨fun z => absurd z (by decide), fun _ => ?_⟩
  refine ⟨fun z => absurd z (by decide), fun _ => ?_⟩
  refine ⟨fun z => absurd z (by decide), fun _ => ?_⟩
  refine ⟨fun z => absurd z (by decide), fun _ => ?_⟩
  refine ⟨fun z => absurd z (by decide), fun _ => ?_⟩
  refine ⟨fun z => absurd z (by decide), fun _ => ?_⟩
  refine ⟨fun z => absurd z (by decide), fun _ => ?_⟩
  refine ⟨fun z => absurd z (by decide), fun _ => ?_⟩
  refine ⟨fun z => absurd z (by decide), fun _ => ?_⟩
  refine ⟨fun z => absurd z (by decide), fun _ => ?_⟩
  refine ⟨fun z => absurd z (by decide), fun _ => ?_⟩
  refine ⟨fun _ => ?_, fun z => absurd rfl z⟩
  exact f_47_678 hE ⟨by decide, h.k7, by decide, 2, 20, hm, hs, c_58 (w := 20) (by decide) h hx (Nat.le_refl _) (Nat.le_refl _) (fun S' α' y n1 n2 => f_47_684 hE ⟨trivial, hQ1 S' α' y n1 n2⟩)⟩
theorem c_85_22 {a t : Nat} (hsp : ox_mono lw_sp) (hK : K < 2 ^ 31) (h : cE S x α C nc e q st) (hx : xEs1 C nc K e st) (htk : tkW 22 a = some t) (hl : t ≤ st.length) (hg : st.length - t + gvW 22 a ≤ 10) (hag : agW (C e.c).1 22 a) (hb : 22 = 122 → e.b.length < 4) (hb2 : 22 = 87 → e.b ≠ []) (hm : 2 ≤ mr) (hs : 20 ≤ sr) (hQ : ∀ S' α' y, cN x S S' → cX S' x α' C nc e q st (xIns C e q 22 a st) y → Q (some (.inl y)) S') : c_47_106 (ox_M lw_sp (d + 15)) (x + 11) (x + 28 + 5 * e.t.length) (nI 22) (nI a) S mr sr Q := by
  have hE : ox_mono (ox_M lw_sp (d + 15)) := ox_M_mono hsp _
  have et : t = 2 := (Option.some.inj (show some 2 = some t from htk)).symm
  have hg1 : st.length - t + 1 ≤ 10 := hg
  have s10 := hx.2.2.1
  obtain ⟨u, v, r, rfl⟩ := ls2 (st := st) (by omega)
  simp only [List.length_cons] at hg1 hl s10
  have hQ1 : ∀ S' α' y, cN x S S' → cX S' x α' C nc e q (u :: v :: r) (xAri e q 22 r v u) y → Q (some (.inl y)) S' := hQ
  refine f_47_106 hE ?_
  unfold q_47_106
  rw [nI_toInt (show 22 < 2 ^ 31 by decide)]
  refine ⟨fun z => absurd z (by decide), fun _ => ?_⟩
  refine ⟨fun z => absurd z (by decide), fun _ => ?_⟩
  refine ⟨fun z => absurd z (by decide), fun _ => ?_⟩
  refine ⟨fun z => absurd z (by decide), fun _ => ?_⟩
  refine ⟨fun z => absurd z (by decide), fun _ => ?_⟩
  refine ⟨fun z => absurd z (by decide), fun _ => ?_⟩
  refine ⟨fun z => absurd z (by decide), fun _ => ?_⟩
  refine ⟨fun z => absurd z (by decide), fun _ => ?_⟩
  refine ⟨fun z => absurd z (by decide), fun _ => ?_⟩
  refine ⟨fun z => absurd z (by decide), fun _ => ?_⟩
  refine ⟨fun z => absurd z (by decide), fun _ => ?_⟩
  refine ⟨fun z => absurd z (by decide), fun _ => ?_⟩
  refine ⟨fun z => absurd z (by decide), fun _ => ?_⟩
  refine ⟨fun z => absurd z (by decide), fun _ => ?_⟩
  refine ⟨fun z => absurd z (by decide), fun _ => ?_⟩
  refine ⟨fun z => absurd z (by decide), fun _ => ?_⟩
  refine ⟨fun z => absurd z (by decide), fun _ => ?_⟩
  refine ⟨fun z => absurd z (by decide), fun _ => ?_⟩
  refine ⟨fun z => absurd z (by decide), fun _ => ?_⟩
  refine ⟨fun z => absurd z (by decide), fun _ => ?_⟩
  refine ⟨fun z => absurd z (by decide), fun _ => ?_⟩
  refine ⟨fun _ => ?_, fun z => absurd rfl z⟩
  exact f_47_678 hE ⟨by decide, h.k7, by decide, 2, 20, hm, hs, c_58 (w := 22) (by decide) h hx (Nat.le_refl _) (Nat.le_refl _) (fun S' α' y n1 n2 => f_47_684 hE ⟨trivial, hQ1 S' α' y n1 n2⟩)⟩
theorem c_85_24 {a t : Nat} (hsp : ox_mono lw_sp) (hK : K < 2 ^ 31) (h : cE S x α C nc e q st) (hx : xEs1 C nc K e st) (htk : tkW 24 a = some t) (hl : t ≤ st.length) (hg : st.length - t + gvW 24 a ≤ 10) (hag : agW (C e.c).1 24 a) (hb : 24 = 122 → e.b.length < 4) (hb2 : 24 = 87 → e.b ≠ []) (hm : 2 ≤ mr) (hs : 20 ≤ sr) (hQ : ∀ S' α' y, cN x S S' → cX S' x α' C nc e q st (xIns C e q 24 a st) y → Q (some (.inl y)) S') : c_47_106 (ox_M lw_sp (d + 15)) (x + 11) (x + 28 + 5 * e.t.length) (nI 24) (nI a) S mr sr Q := by
  have hE : ox_mono (ox_M lw_sp (d + 15)) := ox_M_mono hsp _
  have et : t = 2 := (Option.some.inj (show some 2 = some t from htk)).symm
  have hg1 : st.length - t + 1 ≤ 10 := hg
  have s10 := hx.2.2.1
  obtain ⟨u, v, r, rfl⟩ := ls2 (st := st) (by omega)
  simp only [List.length_cons] at hg1 hl s10
  have hQ1 : ∀ S' α' y, cN x S S' → cX S' x α' C nc e q (u :: v :: r) (xAri e q 24 r v u) y → Q (some (.inl y)) S' := hQ
  refine f_47_106 hE ?_
  unfold q_47_106
  rw [nI_toInt (show 24 < 2 ^ 31 by decide)]
  refine ⟨fun z => absurd z (by decide), fun _ => ?_⟩
  refine ⟨fun z => absurd z (by decide), fun _ => ?_⟩
  refine ⟨fun z => absurd z (by decide), fun _ => ?_⟩
  refine ⟨fun z => absurd z (by decide), fun _ => ?_⟩
  refine ⟨fun z => absurd z (by decide), fun _ => ?_⟩
  refine ⟨fun z => absurd z (by decide), fun _ => ?_⟩
  refine ⟨fun z => absurd z (by decide), fun _ => ?_⟩
  refine ⟨fun z => absurd z (by decide), fun _ => ?_⟩
  refine ⟨fun z => absurd z (by decide), fun _ => ?_⟩
  refine ⟨fun z => absurd z (by decide), fun _ => ?_⟩
  refine ⟨fun z => absurd z (by decide), fun _ => ?_⟩
  refine ⟨fun z => absurd z (by decide), fun _ => ?_⟩
  refine ⟨fun z => absurd z (by decide), fun _ => ?_⟩
  refine ⟨fun z => absurd z (by decide), fun _ => ?_⟩
  refine ⟨fun z => absurd z (by decide), fun _ => ?_⟩
  refine ⟨fun z => absurd z (by decide), fun _ => ?_⟩
  refine ⟨fun z => absurd z (by decide), fun _ => ?_⟩
  refine ⟨fun z => absurd z (by decide), fun _ => ?_⟩
  refine ⟨fun z => absurd z (by decide), fun _ => ?_⟩
  refine ⟨fun z => absurd z (by decide), fun _ => ?_⟩
  refine ⟨fun z => absurd z (by decide), fun _ => ?_⟩
  refine ⟨fun z => absurd z (by decide), fun _ => ?_⟩
  refine ⟨fun z => absurd z (by decide), fun _ => ?_⟩
  refine ⟨fun _ => ?_, fun z => absurd rfl z⟩
  exact f_47_678 hE ⟨by decide, h.k7, by decide, 2, 20, hm, hs, c_58 (w := 24) (by decide) h hx (Nat.le_refl _) (Nat.le_refl _) (fun S' α' y n1 n2 => f_47_684 hE ⟨trivial, hQ1 S' α' y n1 n2⟩)⟩
theorem c_85_26 {a t : Nat} (hsp : ox_mono lw_sp) (hK : K < 2 ^ 31) (h : cE S x α C nc e q st) (hx : xEs1 C nc K e st) (htk : tkW 26 a = some t) (hl : t ≤ st.length) (hg : st.length - t + gvW 26 a ≤ 10) (hag : agW (C e.c).1 26 a) (hb : 26 = 122 → e.b.length < 4) (hb2 : 26 = 87 → e.b ≠ []) (hm : 2 ≤ mr) (hs : 20 ≤ sr) (hQ : ∀ S' α' y, cN x S S' → cX S' x α' C nc e q st (xIns C e q 26 a st) y → Q (some (.inl y)) S') : c_47_106 (ox_M lw_sp (d + 15)) (x + 11) (x + 28 + 5 * e.t.length) (nI 26) (nI a) S mr sr Q := by
  have hE : ox_mono (ox_M lw_sp (d + 15)) := ox_M_mono hsp _
  have et : t = 2 := (Option.some.inj (show some 2 = some t from htk)).symm
  have hg1 : st.length - t + 1 ≤ 10 := hg
  have s10 := hx.2.2.1
  obtain ⟨u, v, r, rfl⟩ := ls2 (st := st) (by omega)
  simp only [List.length_cons] at hg1 hl s10
  have hQ1 : ∀ S' α' y, cN x S S' → cX S' x α' C nc e q (u :: v :: r) (xAri e q 26 r v u) y → Q (some (.inl y)) S' := hQ
  refine f_47_106 hE ?_
  unfold q_47_106
  rw [nI_toInt (show 26 < 2 ^ 31 by decide)]
  refine ⟨fun z => absurd z (by decide), fun _ => ?_⟩
  refine ⟨fun z => absurd z (by decide), fun _ => ?_⟩
  refine ⟨fun z => absurd z (by decide), fun _ => ?_⟩
  refine ⟨fun z => absurd z (by decide), fun _ => ?_⟩
  refine ⟨fun z => absurd z (by decide), fun _ => ?_⟩
  refine ⟨fun z => absurd z (by decide), fun _ => ?_⟩
  refine ⟨fun z => absurd z (by decide), fun _ => ?_⟩
  refine ⟨fun z => absurd z (by decide), fun _ => ?_⟩
  refine ⟨fun z => absurd z (by decide), fun _ => ?_⟩
  refine ⟨fun z => absurd z (by decide), fun _ => ?_⟩
  refine ⟨fun z => absurd z (by decide), fun _ => ?_⟩
  refine ⟨fun z => absurd z (by decide), fun _ => ?_⟩
  refine ⟨fun z => absurd z (by decide), fun _ => ?_⟩
  refine ⟨fun z => absurd z (by decide), fun _ => ?_⟩
  refine ⟨fun z => absurd z (by decide), fun _ => ?_⟩
  refine ⟨fun z => absurd z (by decide), fun _ => ?_⟩
  refine ⟨fun z => absurd z (by decide), fun _ => ?_⟩
  refine ⟨fun z => absurd z (by decide), fun _ => ?_⟩
  refine ⟨fun z => absurd z (by decide), fun _ => ?_⟩
  refine ⟨fun z => absurd z (by decide), fun _ => ?_⟩
  refine ⟨fun z => absurd z (by decide), fun _ => ?_⟩
  refine ⟨fun z => absurd z (by decide), fun _ => ?_⟩
  refine ⟨fun z => absurd z (by decide), fun _ => ?_⟩
  refine ⟨fun z => absurd z (by decide), fun _ => ?_⟩
  refine ⟨fun z => absurd z (by decide), fun _ => ?_⟩
  refine ⟨fun _ => ?_, fun z => absurd rfl z⟩
  exact f_47_678 hE ⟨by decide, h.k7, by decide, 2, 20, hm, hs, c_58 (w := 26) (by decide) h hx (Nat.le_refl _) (Nat.le_refl _) (fun S' α' y n1 n2 => f_47_684 hE ⟨trivial, hQ1 S' α' y n1 n2⟩)⟩
theorem c_85_23 {a t : Nat} (hsp : ox_mono lw_sp) (hK : K < 2 ^ 31) (h : cE S x α C nc e q st) (hx : xEs1 C nc K e st) (htk : tkW 23 a = some t) (hl : t ≤ st.length) (hg : st.length - t + gvW 23 a ≤ 10) (hag : agW (C e.c).1 23 a) (hb : 23 = 122 → e.b.length < 4) (hb2 : 23 = 87 → e.b ≠ []) (hm : 2 ≤ mr) (hs : 20 ≤ sr) (hQ : ∀ S' α' y, cN x S S' → cX S' x α' C nc e q st (xIns C e q 23 a st) y → Q (some (.inl y)) S') : c_47_106 (ox_M lw_sp (d + 15)) (x + 11) (x + 28 + 5 * e.t.length) (nI 23) (nI a) S mr sr Q := by
  have hE : ox_mono (ox_M lw_sp (d + 15)) := ox_M_mono hsp _
  have et : t = 2 := (Option.some.inj (show some 2 = some t from htk)).symm
  have hg1 : st.length - t + 1 ≤ 10 := hg
  have s10 := hx.2.2.1
  obtain ⟨u, v, r, rfl⟩ := ls2 (st := st) (by omega)
  simp only [List.length_cons] at hg1 hl s10
  have hQ1 : ∀ S' α' y, cN x S S' → cX S' x α' C nc e q (u :: v :: r) (xAdd e q r v u) y → Q (some (.inl y)) S' := hQ
  refine f_47_106 hE ?_
  unfold q_47_106
  rw [nI_toInt (show 23 < 2 ^ 31 by decide)]
  refine ⟨fun z => absurd z (by decide), fun _ => ?_⟩
  refine ⟨fun z => absurd z (by decide), fun _ => ?_⟩
  refine ⟨fun z => absurd z (by decide), fun _ => ?_⟩
  refine ⟨fun z => absurd z (by decide), fun _ => ?_⟩
  refine ⟨fun z => absurd z (by decide), fun _ => ?_⟩
  refine ⟨fun z => absurd z (by decide), fun _ => ?_⟩
  refine ⟨fun z => absurd z (by decide), fun _ => ?_⟩
  refine ⟨fun z => absurd z (by decide), fun _ => ?_⟩
  refine ⟨fun z => absurd z (by decide), fun _ => ?_⟩
  refine ⟨fun z => absurd z (by decide), fun _ => ?_⟩
  refine ⟨fun z => absurd z (by decide), fun _ => ?_⟩
  refine ⟨fun z => absurd z (by decide), fun _ => ?_⟩
  refine ⟨fun z => absurd z (by decide), fun _ => ?_⟩
  refine ⟨fun z => absurd z (by decide), fun _ => ?_⟩
  refine ⟨fun z => absurd z (by decide), fun _ => ?_⟩
  refine ⟨fun z => absurd z (by decide), fun _ => ?_⟩
  refine ⟨fun z => absurd z (by decide), fun _ => ?_⟩
  refine ⟨fun z => absurd z (by decide), fun _ => ?_⟩
  refine ⟨fun z => absurd z (by decide), fun _ => ?_⟩
  refine ⟨fun z => absurd z (by decide), fun _ => ?_⟩
  refine ⟨fun z => absurd z (by decide), fun _ => ?_⟩
  refine ⟨fun z => absurd z (by decide), fun _ => ?_⟩
  refine ⟨fun _ => ?_, fun z => absurd rfl z⟩
  exact f_47_678 hE ⟨by decide, h.k7, by decide, 2, 20, hm, hs, c_58_23 h hx (Nat.le_refl _) (Nat.le_refl _) (fun S' α' y n1 n2 => f_47_684 hE ⟨trivial, hQ1 S' α' y n1 n2⟩)⟩
theorem c_85_25 {a t : Nat} (hsp : ox_mono lw_sp) (hK : K < 2 ^ 31) (h : cE S x α C nc e q st) (hx : xEs1 C nc K e st) (htk : tkW 25 a = some t) (hl : t ≤ st.length) (hg : st.length - t + gvW 25 a ≤ 10) (hag : agW (C e.c).1 25 a) (hb : 25 = 122 → e.b.length < 4) (hb2 : 25 = 87 → e.b ≠ []) (hm : 2 ≤ mr) (hs : 20 ≤ sr) (hQ : ∀ S' α' y, cN x S S' → cX S' x α' C nc e q st (xIns C e q 25 a st) y → Q (some (.inl y)) S') : c_47_106 (ox_M lw_sp (d + 15)) (x + 11) (x + 28 + 5 * e.t.length) (nI 25) (nI a) S mr sr Q := by
  have hE : ox_mono (ox_M lw_sp (d + 15)) := ox_M_mono hsp _
  have et : t = 2 := (Option.some.inj (show some 2 = some t from htk)).symm
  have hg1 : st.length - t + 1 ≤ 10 := hg
  have s10 := hx.2.2.1
  obtain ⟨u, v, r, rfl⟩ := ls2 (st := st) (by omega)
  simp only [List.length_cons] at hg1 hl s10
  have hQ1 : ∀ S' α' y, cN x S S' → cX S' x α' C nc e q (u :: v :: r) (xIt e q r v u) y → Q (some (.inl y)) S' := hQ
  refine f_47_106 hE ?_
  unfold q_47_106
  rw [nI_toInt (show 25 < 2 ^ 31 by decide)]
  refine ⟨fun z => absurd z (by decide), fun _ => ?_⟩
  refine ⟨fun z => absurd z (by decide), fun _ => ?_⟩
  refine ⟨fun z => absurd z (by decide), fun _ => ?_⟩
  refine ⟨fun z => absurd z (by decide), fun _ => ?_⟩
  refine ⟨fun z => absurd z (by decide), fun _ => ?_⟩
  refine ⟨fun z => absurd z (by decide), fun _ => ?_⟩
  refine ⟨fun z => absurd z (by decide), fun _ => ?_⟩
  refine ⟨fun z => absurd z (by decide), fun _ => ?_⟩
  refine ⟨fun z => absurd z (by decide), fun _ => ?_⟩
  refine ⟨fun z => absurd z (by decide), fun _ => ?_⟩
  refine ⟨fun z => absurd z (by decide), fun _ => ?_⟩
  refine ⟨fun z => absurd z (by decide), fun _ => ?_⟩
  refine ⟨fun z => absurd z (by decide), fun _ => ?_⟩
  refine ⟨fun z => absurd z (by decide), fun _ => ?_⟩
  refine ⟨fun z => absurd z (by decide), fun _ => ?_⟩
  refine ⟨fun z => absurd z (by decide), fun _ => ?_⟩
  refine ⟨fun z => absurd z (by decide), fun _ => ?_⟩
  refine ⟨fun z => absurd z (by decide), fun _ => ?_⟩
  refine ⟨fun z => absurd z (by decide), fun _ => ?_⟩
  refine ⟨fun z => absurd z (by decide), fun _ => ?_⟩
  refine ⟨fun z => absurd z (by decide), fun _ => ?_⟩
  refine ⟨fun z => absurd z (by decide), fun _ => ?_⟩
  refine ⟨fun z => absurd z (by decide), fun _ => ?_⟩
  refine ⟨fun z => absurd z (by decide), fun _ => ?_⟩
  refine ⟨fun _ => ?_, fun z => absurd rfl z⟩
  exact ⟨by decide, h.k7, by decide, 2, 20, hm, hs, c_60 h hx (Nat.le_refl _) (Nat.le_refl _) (fun S' α' y n1 n2 => f_47_690 hE ⟨trivial, hQ1 S' α' y n1 n2⟩)⟩
theorem c_85_68 {a t : Nat} (hsp : ox_mono lw_sp) (hK : K < 2 ^ 31) (h : cE S x α C nc e q st) (hx : xEs1 C nc K e st) (htk : tkW 68 a = some t) (hl : t ≤ st.length) (hg : st.length - t + gvW 68 a ≤ 10) (hag : agW (C e.c).1 68 a) (hb : 68 = 122 → e.b.length < 4) (hb2 : 68 = 87 → e.b ≠ []) (hm : 2 ≤ mr) (hs : 20 ≤ sr) (hQ : ∀ S' α' y, cN x S S' → cX S' x α' C nc e q st (xIns C e q 68 a st) y → Q (some (.inl y)) S') : c_47_106 (ox_M lw_sp (d + 15)) (x + 11) (x + 28 + 5 * e.t.length) (nI 68) (nI a) S mr sr Q := by
  have hE : ox_mono (ox_M lw_sp (d + 15)) := ox_M_mono hsp _
  have et : t = 1 := (Option.some.inj (show some 1 = some t from htk)).symm
  have hg1 : st.length - t + 1 ≤ 10 := hg
  have s10 := hx.2.2.1
  obtain ⟨v, r, rfl⟩ := ls1 (st := st) (by omega)
  simp only [List.length_cons] at hg1 hl s10
  have hQ1 : ∀ S' α' y, cN x S S' → cX S' x α' C nc e q (v :: r) (xWalk e q r v) y → Q (some (.inl y)) S' := hQ
  refine f_47_106 hE ?_
  unfold q_47_106
  rw [nI_toInt (show 68 < 2 ^ 31 by decide)]
  refine ⟨fun z => absurd z (by decide), fun _ => ?_⟩
  refine ⟨fun z => absurd z (by decide), fun _ => ?_⟩
  refine ⟨fun z => absurd z (by decide), fun _ => ?_⟩
  refine ⟨fun z => absurd z (by decide), fun _ => ?_⟩
  refine ⟨fun z => absurd z (by decide), fun _ => ?_⟩
  refine ⟨fun z => absurd z (by decide), fun _ => ?_⟩
  refine ⟨fun z => absurd z (by decide), fun _ => ?_⟩
  refine ⟨fun z => absurd z (by decide), fun _ => ?_⟩
  refine ⟨fun z => absurd z (by decide), fun _ => ?_⟩
  refine ⟨fun z => absurd z (by decide), fun _ => ?_⟩
  refine ⟨fun z => absurd z (by decide), fun _ => ?_⟩
  refine ⟨fun z => absurd z (by decide), fun _ => ?_⟩
  refine ⟨fun z => absurd z (by decide), fun _ => ?_⟩
  refine ⟨fun z => absurd z (by decide), fun _ => ?_⟩
  refine ⟨fun z => absurd z (by decide), fun _ => ?_⟩
  refine ⟨fun z => absurd z (by decide), fun _ => ?_⟩
  refine ⟨fun z => absurd z (by decide), fun _ => ?_⟩
  refine ⟨fun z => absurd z (by decide), fun _ => ?_⟩
  refine ⟨fun z => absurd z (by decide), fun _ => ?_⟩
  refine ⟨fun z => absurd z (by decide), fun _ => ?_⟩
  refine ⟨fun z => absurd z (by decide), fun _ => ?_⟩
  refine ⟨fun z => absurd z (by decide), fun _ => ?_⟩
  refine ⟨fun z => absurd z (by decide), fun _ => ?_⟩
  refine ⟨fun z => absurd z (by decide), fun _ => ?_⟩
  refine ⟨fun z => absurd z (by decide), fun _ => ?_⟩
  refine ⟨fun z => absurd z (by decide), fun _ => ?_⟩
  refine ⟨fun z => absurd z (by decide), fun _ => ?_⟩
  refine ⟨fun z => absurd z (by decide), fun _ => ?_⟩
  refine ⟨fun z => absurd z (by decide), fun _ => ?_⟩
  refine ⟨fun z => absurd z (by decide), fun _ => ?_⟩
  refine ⟨fun z => absurd z (by decide), fun _ => ?_⟩
  refine ⟨fun z => absurd z (by decide), fun _ => ?_⟩
  refine ⟨fun z => absurd z (by decide), fun _ => ?_⟩
  refine ⟨fun z => absurd z (by decide), fun _ => ?_⟩
  refine ⟨fun z => absurd z (by decide), fun _ => ?_⟩
  refine ⟨fun z => absurd z (by decide), fun _ => ?_⟩
  refine ⟨fun z => absurd z (by decide), fun _ => ?_⟩
  refine ⟨fun z => absurd z (by decide), fun _ => ?_⟩
  refine ⟨fun z => absurd z (by decide), fun _ => ?_⟩
  refine ⟨fun z => absurd z (by decide), fun _ => ?_⟩
  refine ⟨fun z => absurd z (by decide), fun _ => ?_⟩
  refine ⟨fun z => absurd z (by decide), fun _ => ?_⟩
  refine ⟨fun z => absurd z (by decide), fun _ => ?_⟩
  refine ⟨fun z => absurd z (by decide), fun _ => ?_⟩
  refine ⟨fun z => absurd z (by decide), fun _ => ?_⟩
  refine ⟨fun z => absurd z (by decide), fun _ => ?_⟩
  refine ⟨fun z => absurd z (by decide), fun _ => ?_⟩
  refine ⟨fun z => absurd z (by decide), fun _ => ?_⟩
  refine ⟨fun z => absurd z (by decide), fun _ => ?_⟩
  refine ⟨fun z => absurd z (by decide), fun _ => ?_⟩
  refine ⟨fun z => absurd z (by decide), fun _ => ?_⟩
  refine ⟨fun z => absurd z (by decide), fun _ => ?_⟩
  refine ⟨fun z => absurd z (by decide), fun _ => ?_⟩
  refine ⟨fun z => absurd z (by decide), fun _ => ?_⟩
  refine ⟨fun z => absurd z (by decide), fun _ => ?_⟩
  refine ⟨fun z => absurd z (by decide), fun _ => ?_⟩
  refine ⟨fun z => absurd z (by decide), fun _ => ?_⟩
  refine ⟨fun z => absurd z (by decide), fun _ => ?_⟩
  refine ⟨fun z => absurd z (by decide), fun _ => ?_⟩
  refine ⟨fun z => absurd z (by decide), fun _ => ?_⟩
  refine ⟨fun z => absurd z (by decide), fun _ => ?_⟩
  refine ⟨fun z => absurd z (by decide), fun _ => ?_⟩
  refine ⟨fun z => absurd z (by decide), fun _ => ?_⟩
  refine ⟨fun z => absurd z (by decide), fun _ => ?_⟩
  refine ⟨fun z => absurd z (by decide), fun _ => ?_⟩
  refine ⟨fun z => absurd z (by decide), fun _ => ?_⟩
  refine ⟨fun z => absurd z (by decide), fun _ => ?_⟩
  refine ⟨fun _ => ?_, fun z => absurd rfl z⟩
  exact ⟨by decide, by decide, 2, 20, hm, hs, c_66 h hx (Nat.le_refl _) (Nat.le_refl _) (fun S' α' y n1 n2 => f_47_702 hE ⟨trivial, hQ1 S' α' y n1 n2⟩)⟩
theorem c_85_83 {a t : Nat} (hsp : ox_mono lw_sp) (hK : K < 2 ^ 31) (h : cE S x α C nc e q st) (hx : xEs1 C nc K e st) (htk : tkW 83 a = some t) (hl : t ≤ st.length) (hg : st.length - t + gvW 83 a ≤ 10) (hag : agW (C e.c).1 83 a) (hb : 83 = 122 → e.b.length < 4) (hb2 : 83 = 87 → e.b ≠ []) (hm : 2 ≤ mr) (hs : 20 ≤ sr) (hQ : ∀ S' α' y, cN x S S' → cX S' x α' C nc e q st (xIns C e q 83 a st) y → Q (some (.inl y)) S') : c_47_106 (ox_M lw_sp (d + 15)) (x + 11) (x + 28 + 5 * e.t.length) (nI 83) (nI a) S mr sr Q := by
  have hE : ox_mono (ox_M lw_sp (d + 15)) := ox_M_mono hsp _
  have et : t = 1 := (Option.some.inj (show some 1 = some t from htk)).symm
  have hg1 : st.length - t + 0 ≤ 10 := hg
  have s10 := hx.2.2.1
  obtain ⟨v, r, rfl⟩ := ls1 (st := st) (by omega)
  simp only [List.length_cons] at hg1 hl s10
  have hQ1 : ∀ S' α' y, cN x S S' → cX S' x α' C nc e q (v :: r) (xRet e v) y → Q (some (.inl y)) S' := hQ
  refine f_47_106 hE ?_
  unfold q_47_106
  rw [nI_toInt (show 83 < 2 ^ 31 by decide)]
  refine ⟨fun z => absurd z (by decide), fun _ => ?_⟩
  refine ⟨fun z => absurd z (by decide), fun _ => ?_⟩
  refine ⟨fun z => absurd z (by decide), fun _ => ?_⟩
  refine ⟨fun z => absurd z (by decide), fun _ => ?_⟩
  refine ⟨fun z => absurd z (by decide), fun _ => ?_⟩
  refine ⟨fun z => absurd z (by decide), fun _ => ?_⟩
  refine ⟨fun z => absurd z (by decide), fun _ => ?_⟩
  refine ⟨fun z => absurd z (by decide), fun _ => ?_⟩
  refine ⟨fun z => absurd z (by decide), fun _ => ?_⟩
  refine ⟨fun z => absurd z (by decide), fun _ => ?_⟩
  refine ⟨fun z => absurd z (by decide), fun _ => ?_⟩
  refine ⟨fun z => absurd z (by decide), fun _ => ?_⟩
  refine ⟨fun z => absurd z (by decide), fun _ => ?_⟩
  refine ⟨fun z => absurd z (by decide), fun _ => ?_⟩
  refine ⟨fun z => absurd z (by decide), fun _ => ?_⟩
  refine ⟨fun z => absurd z (by decide), fun _ => ?_⟩
  refine ⟨fun z => absurd z (by decide), fun _ => ?_⟩
  refine ⟨fun z => absurd z (by decide), fun _ => ?_⟩
  refine ⟨fun z => absurd z (by decide), fun _ => ?_⟩
  refine ⟨fun z => absurd z (by decide), fun _ => ?_⟩
  refine ⟨fun z => absurd z (by decide), fun _ => ?_⟩
  refine ⟨fun z => absurd z (by decide), fun _ => ?_⟩
  refine ⟨fun z => absurd z (by decide), fun _ => ?_⟩
  refine ⟨fun z => absurd z (by decide), fun _ => ?_⟩
  refine ⟨fun z => absurd z (by decide), fun _ => ?_⟩
  refine ⟨fun z => absurd z (by decide), fun _ => ?_⟩
  refine ⟨fun z => absurd z (by decide), fun _ => ?_⟩
  refine ⟨fun z => absurd z (by decide), fun _ => ?_⟩
  refine ⟨fun z => absurd z (by decide), fun _ => ?_⟩
  refine ⟨fun z => absurd z (by decide), fun _ => ?_⟩
  refine ⟨fun z => absurd z (by decide), fun _ => ?_⟩
  refine ⟨fun z => absurd z (by decide), fun _ => ?_⟩
  refine ⟨fun z => absurd z (by decide), fun _ => ?_⟩
  refine ⟨fun z => absurd z (by decide), fun _ => ?_⟩
  refine ⟨fun z => absurd z (by decide), fun _ => ?_⟩
  refine ⟨fun z => absurd z (by decide), fun _ => ?_⟩
  refine ⟨fun z => absurd z (by decide), fun _ => ?_⟩
  refine ⟨fun z => absurd z (by decide), fun _ => ?_⟩
  refine ⟨fun z => absurd z (by decide), fun _ => ?_⟩
  refine ⟨fun z => absurd z (by decide), fun _ => ?_⟩
  refine ⟨fun z => absurd z (by decide), fun _ => ?_⟩
  refine ⟨fun z => absurd z (by decide), fun _ => ?_⟩
  refine ⟨fun z => absurd z (by decide), fun _ => ?_⟩
  refine ⟨fun z => absurd z (by decide), fun _ => ?_⟩
  refine ⟨fun z => absurd z (by decide), fun _ => ?_⟩
  refine ⟨fun z => absurd z (by decide), fun _ => ?_⟩
  refine ⟨fun z => absurd z (by decide), fun _ => ?_⟩
  refine ⟨fun z => absurd z (by decide), fun _ => ?_⟩
  refine ⟨fun z => absurd z (by decide), fun _ => ?_⟩
  refine ⟨fun z => absurd z (by decide), fun _ => ?_⟩
  refine ⟨fun z => absurd z (by decide), fun _ => ?_⟩
  refine ⟨fun z => absurd z (by decide), fun _ => ?_⟩
  refine ⟨fun z => absurd z (by decide), fun _ => ?_⟩
  refine ⟨fun z => absurd z (by decide), fun _ => ?_⟩
  refine ⟨fun z => absurd z (by decide), fun _ => ?_⟩
  refine ⟨fun z => absurd z (by decide), fun _ => ?_⟩
  refine ⟨fun z => absurd z (by decide), fun _ => ?_⟩
  refine ⟨fun z => absurd z (by decide), fun _ => ?_⟩
  refine ⟨fun z => absurd z (by decide), fun _ => ?_⟩
  refine ⟨fun z => absurd z (by decide), fun _ => ?_⟩
  refine ⟨fun z => absurd z (by decide), fun _ => ?_⟩
  refine ⟨fun z => absurd z (by decide), fun _ => ?_⟩
  refine ⟨fun z => absurd z (by decide), fun _ => ?_⟩
  refine ⟨fun z => absurd z (by decide), fun _ => ?_⟩
  refine ⟨fun z => absurd z (by decide), fun _ => ?_⟩
  refine ⟨fun z => absurd z (by decide), fun _ => ?_⟩
  refine ⟨fun z => absurd z (by decide), fun _ => ?_⟩
  refine ⟨fun z => absurd z (by decide), fun _ => ?_⟩
  refine ⟨fun z => absurd z (by decide), fun _ => ?_⟩
  refine ⟨fun z => absurd z (by decide), fun _ => ?_⟩
  refine ⟨fun z => absurd z (by decide), fun _ => ?_⟩
  refine ⟨fun z => absurd z (by decide), fun _ => ?_⟩
  refine ⟨fun z => absurd z (by decide), fun _ => ?_⟩
  refine ⟨fun z => absurd z (by decide), fun _ => ?_⟩
  refine ⟨fun z => absurd z (by decide), fun _ => ?_⟩
  refine ⟨fun z => absurd z (by decide), fun _ => ?_⟩
  refine ⟨fun z => absurd z (by decide), fun _ => ?_⟩
  refine ⟨fun z => absurd z (by decide), fun _ => ?_⟩
  refine ⟨fun z => absurd z (by decide), fun _ => ?_⟩
  refine ⟨fun z => absurd z (by decide), fun _ => ?_⟩
  refine ⟨fun z => absurd z (by decide), fun _ => ?_⟩
  refine ⟨fun z => absurd z (by decide), fun _ => ?_⟩
  refine ⟨fun _ => ?_, fun z => absurd rfl z⟩
  exact ⟨by decide, h.k7, by decide, 0, 0, Nat.zero_le _, Nat.zero_le _, c_49 hsp h hx (fun S' y n1 n2 => f_47_769 hE ⟨trivial, hQ1 S' α y n1 n2⟩)⟩
theorem c_85_87 {a t : Nat} (hsp : ox_mono lw_sp) (hK : K < 2 ^ 31) (h : cE S x α C nc e q st) (hx : xEs1 C nc K e st) (htk : tkW 87 a = some t) (hl : t ≤ st.length) (hg : st.length - t + gvW 87 a ≤ 10) (hag : agW (C e.c).1 87 a) (hb : 87 = 122 → e.b.length < 4) (hb2 : 87 = 87 → e.b ≠ []) (hm : 2 ≤ mr) (hs : 20 ≤ sr) (hQ : ∀ S' α' y, cN x S S' → cX S' x α' C nc e q st (xIns C e q 87 a st) y → Q (some (.inl y)) S') : c_47_106 (ox_M lw_sp (d + 15)) (x + 11) (x + 28 + 5 * e.t.length) (nI 87) (nI a) S mr sr Q := by
  have hE : ox_mono (ox_M lw_sp (d + 15)) := ox_M_mono hsp _
  have et : t = 0 := (Option.some.inj (show some 0 = some t from htk)).symm
  have hg1 : st.length - t + 0 ≤ 10 := hg
  have s10 := hx.2.2.1
  have hQ1 : ∀ S' α' y, cN x S S' → cX S' x α' C nc e q st (.inr (e.H, e.n, e.G, (e.c, q, st, e.L, e.b.tail) :: e.t, none)) y → Q (some (.inl y)) S' := hQ
  refine f_47_106 hE ?_
  unfold q_47_106
  rw [nI_toInt (show 87 < 2 ^ 31 by decide)]
  refine ⟨fun z => absurd z (by decide), fun _ => ?_⟩
  refine ⟨fun z => absurd z (by decide), fun _ => ?_⟩
  refine ⟨fun z => absurd z (by decide), fun _ => ?_⟩
  refine ⟨fun z => absurd z (by decide), fun _ => ?_⟩
  refine ⟨fun z => absurd z (by decide), fun _ => ?_⟩
  refine ⟨fun z => absurd z (by decide), fun _ => ?_⟩
  refine ⟨fun z => absurd z (by decide), fun _ => ?_⟩
  refine ⟨fun z => absurd z (by decide), fun _ => ?_⟩
  refine ⟨fun z => absurd z (by decide), fun _ => ?_⟩
  refine ⟨fun z => absurd z (by decide), fun _ => ?_⟩
  refine ⟨fun z => absurd z (by decide), fun _ => ?_⟩
  refine ⟨fun z => absurd z (by decide), fun _ => ?_⟩
  refine ⟨fun z => absurd z (by decide), fun _ => ?_⟩
  refine ⟨fun z => absurd z (by decide), fun _ => ?_⟩
  refine ⟨fun z => absurd z (by decide), fun _ => ?_⟩
  refine ⟨fun z => absurd z (by decide), fun _ => ?_⟩
  refine ⟨fun z => absurd z (by decide), fun _ => ?_⟩
  refine ⟨fun z => absurd z (by decide), fun _ => ?_⟩
  refine ⟨fun z => absurd z (by decide), fun _ => ?_⟩
  refine ⟨fun z => absurd z (by decide), fun _ => ?_⟩
  refine ⟨fun z => absurd z (by decide), fun _ => ?_⟩
  refine ⟨fun z => absurd z (by decide), fun _ => ?_⟩
  refine ⟨fun z => absurd z (by decide), fun _ => ?_⟩
  refine ⟨fun z => absurd z (by decide), fun _ => ?_⟩
  refine ⟨fun z => absurd z (by decide), fun _ => ?_⟩
  refine ⟨fun z => absurd z (by decide), fun _ => ?_⟩
  refine ⟨fun z => absurd z (by decide), fun _ => ?_⟩
  refine ⟨fun z => absurd z (by decide), fun _ => ?_⟩
  refine ⟨fun z => absurd z (by decide), fun _ => ?_⟩
  refine ⟨fun z => absurd z (by decide), fun _ => ?_⟩
  refine ⟨fun z => absurd z (by decide), fun _ => ?_⟩
  refine ⟨fun z => absurd z (by decide), fun _ => ?_⟩
  refine ⟨fun z => absurd z (by decide), fun _ => ?_⟩
  refine ⟨fun z => absurd z (by decide), fun _ => ?_⟩
  refine ⟨fun z => absurd z (by decide), fun _ => ?_⟩
  refine ⟨fun z => absurd z (by decide), fun _ => ?_⟩
  refine ⟨fun z => absurd z (by decide), fun _ => ?_⟩
  refine ⟨fun z => absurd z (by decide), fun _ => ?_⟩
  refine ⟨fun z => absurd z (by decide), fun _ => ?_⟩
  refine ⟨fun z => absurd z (by decide), fun _ => ?_⟩
  refine ⟨fun z => absurd z (by decide), fun _ => ?_⟩
  refine ⟨fun z => absurd z (by decide), fun _ => ?_⟩
  refine ⟨fun z => absurd z (by decide), fun _ => ?_⟩
  refine ⟨fun z => absurd z (by decide), fun _ => ?_⟩
  refine ⟨fun z => absurd z (by decide), fun _ => ?_⟩
  refine ⟨fun z => absurd z (by decide), fun _ => ?_⟩
  refine ⟨fun z => absurd z (by decide), fun _ => ?_⟩
  refine ⟨fun z => absurd z (by decide), fun _ => ?_⟩
  refine ⟨fun z => absurd z (by decide), fun _ => ?_⟩
  refine ⟨fun z => absurd z (by decide), fun _ => ?_⟩
  refine ⟨fun z => absurd z (by decide), fun _ => ?_⟩
  refine ⟨fun z => absurd z (by decide), fun _ => ?_⟩
  refine ⟨fun z => absurd z (by decide), fun _ => ?_⟩
  refine ⟨fun z => absurd z (by decide), fun _ => ?_⟩
  refine ⟨fun z => absurd z (by decide), fun _ => ?_⟩
  refine ⟨fun z => absurd z (by decide), fun _ => ?_⟩
  refine ⟨fun z => absurd z (by decide), fun _ => ?_⟩
  refine ⟨fun z => absurd z (by decide), fun _ => ?_⟩
  refine ⟨fun z => absurd z (by decide), fun _ => ?_⟩
  refine ⟨fun z => absurd z (by decide), fun _ => ?_⟩
  refine ⟨fun z => absurd z (by decide), fun _ => ?_⟩
  refine ⟨fun z => absurd z (by decide), fun _ => ?_⟩
  refine ⟨fun z => absurd z (by decide), fun _ => ?_⟩
  refine ⟨fun z => absurd z (by decide), fun _ => ?_⟩
  refine ⟨fun z => absurd z (by decide), fun _ => ?_⟩
  refine ⟨fun z => absurd z (by decide), fun _ => ?_⟩
  refine ⟨fun z => absurd z (by decide), fun _ => ?_⟩
  refine ⟨fun z => absurd z (by decide), fun _ => ?_⟩
  refine ⟨fun z => absurd z (by decide), fun _ => ?_⟩
  refine ⟨fun z => absurd z (by decide), fun _ => ?_⟩
  refine ⟨fun z => absurd z (by decide), fun _ => ?_⟩
  refine ⟨fun z => absurd z (by decide), fun _ => ?_⟩
  refine ⟨fun z => absurd z (by decide), fun _ => ?_⟩
  refine ⟨fun z => absurd z (by decide), fun _ => ?_⟩
  refine ⟨fun z => absurd z (by decide), fun _ => ?_⟩
  refine ⟨fun z => absurd z (by decide), fun _ => ?_⟩
  refine ⟨fun z => absurd z (by decide), fun _ => ?_⟩
  refine ⟨fun z => absurd z (by decide), fun _ => ?_⟩
  refine ⟨fun z => absurd z (by decide), fun _ => ?_⟩
  refine ⟨fun z => absurd z (by decide), fun _ => ?_⟩
  refine ⟨fun z => absurd z (by decide), fun _ => ?_⟩
  refine ⟨fun z => absurd z (by decide), fun _ => ?_⟩
  refine ⟨fun z => absurd z (by decide), fun _ => ?_⟩
  refine ⟨fun z => absurd z (by decide), fun _ => ?_⟩
  refine ⟨fun z => absurd z (by decide), fun _ => ?_⟩
  refine ⟨fun z => absurd z (by decide), fun _ => ?_⟩
  refine ⟨fun _ => ?_, fun z => absurd rfl z⟩
  cases eb : e.b with
  | nil => exact absurd eb (hb2 rfl)
  | cons g b =>
    rw [eb] at hQ1
    exact f_47_729 hE ⟨by decide, by decide, 0, 0, Nat.zero_le _, Nat.zero_le _, c_53_87 hsp h hx eb (fun S' n1 n2 => f_47_735 hE ⟨trivial, hQ1 S' α (-1) n1 ⟨rfl, n2⟩⟩)⟩
theorem c_85_90 {a t : Nat} (hsp : ox_mono lw_sp) (hK : K < 2 ^ 31) (h : cE S x α C nc e q st) (hx : xEs1 C nc K e st) (htk : tkW 90 a = some t) (hl : t ≤ st.length) (hg : st.length - t + gvW 90 a ≤ 10) (hag : agW (C e.c).1 90 a) (hb : 90 = 122 → e.b.length < 4) (hb2 : 90 = 87 → e.b ≠ []) (hm : 2 ≤ mr) (hs : 20 ≤ sr) (hQ : ∀ S' α' y, cN x S S' → cX S' x α' C nc e q st (xIns C e q 90 a st) y → Q (some (.inl y)) S') : c_47_106 (ox_M lw_sp (d + 15)) (x + 11) (x + 28 + 5 * e.t.length) (nI 90) (nI a) S mr sr Q := by
  have hE : ox_mono (ox_M lw_sp (d + 15)) := ox_M_mono hsp _
  have et : t = 1 := (Option.some.inj (show some 1 = some t from htk)).symm
  have hg1 : st.length - t + 0 ≤ 10 := hg
  have s10 := hx.2.2.1
  obtain ⟨⟨-, -, o3, -⟩, -, cK, cW, -⟩ := hx.1.2.1 e.c hx.1.2.2.2.1
  obtain ⟨v, r, rfl⟩ := ls1 (st := st) (by omega)
  simp only [List.length_cons] at hg1 hl s10
  have hQ1 : ∀ S' α' y, cN x S S' → cX S' x α' C nc e q (v :: r) (xStore e q ((C e.c).2.2.getD a 0) r v) y → Q (some (.inl y)) S' := hQ
  refine f_47_106 hE ?_
  unfold q_47_106
  rw [nI_toInt (show 90 < 2 ^ 31 by decide)]
  refine ⟨fun z => absurd z (by decide), fun _ => ?_⟩
  refine ⟨fun z => absurd z (by decide), fun _ => ?_⟩
  refine ⟨fun z => absurd z (by decide), fun _ => ?_⟩
  refine ⟨fun z => absurd z (by decide), fun _ => ?_⟩
  refine ⟨fun z => absurd z (by decide), fun _ => ?_⟩
  refine ⟨fun z => absurd z (by decide), fun _ => ?_⟩
  refine ⟨fun z => absurd z (by decide), fun _ => ?_⟩
  refine ⟨fun z => absurd z (by decide), fun _ => ?_⟩
  refine ⟨fun z => absurd z (by decide), fun _ => ?_⟩
  refine ⟨fun z => absurd z (by decide), fun _ => ?_⟩
  refine ⟨fun z => absurd z (by decide), fun _ => ?_⟩
  refine ⟨fun z => absurd z (by decide), fun _ => ?_⟩
  refine ⟨fun z => absurd z (by decide), fun _ => ?_⟩
  refine ⟨fun z => absurd z (by decide), fun _ => ?_⟩
  refine ⟨fun z => absurd z (by decide), fun _ => ?_⟩
  refine ⟨fun z => absurd z (by decide), fun _ => ?_⟩
  refine ⟨fun z => absurd z (by decide), fun _ => ?_⟩
  refine ⟨fun z => absurd z (by decide), fun _ => ?_⟩
  refine ⟨fun z => absurd z (by decide), fun _ => ?_⟩
  refine ⟨fun z => absurd z (by decide), fun _ => ?_⟩
  refine ⟨fun z => absurd z (by decide), fun _ => ?_⟩
  refine ⟨fun z => absurd z (by decide), fun _ => ?_⟩
  refine ⟨fun z => absurd z (by decide), fun _ => ?_⟩
  refine ⟨fun z => absurd z (by decide), fun _ => ?_⟩
  refine ⟨fun z => absurd z (by decide), fun _ => ?_⟩
  refine ⟨fun z => absurd z (by decide), fun _ => ?_⟩
  refine ⟨fun z => absurd z (by decide), fun _ => ?_⟩
  refine ⟨fun z => absurd z (by decide), fun _ => ?_⟩
  refine ⟨fun z => absurd z (by decide), fun _ => ?_⟩
  refine ⟨fun z => absurd z (by decide), fun _ => ?_⟩
  refine ⟨fun z => absurd z (by decide), fun _ => ?_⟩
  refine ⟨fun z => absurd z (by decide), fun _ => ?_⟩
  refine ⟨fun z => absurd z (by decide), fun _ => ?_⟩
  refine ⟨fun z => absurd z (by decide), fun _ => ?_⟩
  refine ⟨fun z => absurd z (by decide), fun _ => ?_⟩
  refine ⟨fun z => absurd z (by decide), fun _ => ?_⟩
  refine ⟨fun z => absurd z (by decide), fun _ => ?_⟩
  refine ⟨fun z => absurd z (by decide), fun _ => ?_⟩
  refine ⟨fun z => absurd z (by decide), fun _ => ?_⟩
  refine ⟨fun z => absurd z (by decide), fun _ => ?_⟩
  refine ⟨fun z => absurd z (by decide), fun _ => ?_⟩
  refine ⟨fun z => absurd z (by decide), fun _ => ?_⟩
  refine ⟨fun z => absurd z (by decide), fun _ => ?_⟩
  refine ⟨fun z => absurd z (by decide), fun _ => ?_⟩
  refine ⟨fun z => absurd z (by decide), fun _ => ?_⟩
  refine ⟨fun z => absurd z (by decide), fun _ => ?_⟩
  refine ⟨fun z => absurd z (by decide), fun _ => ?_⟩
  refine ⟨fun z => absurd z (by decide), fun _ => ?_⟩
  refine ⟨fun z => absurd z (by decide), fun _ => ?_⟩
  refine ⟨fun z => absurd z (by decide), fun _ => ?_⟩
  refine ⟨fun z => absurd z (by decide), fun _ => ?_⟩
  refine ⟨fun z => absurd z (by decide), fun _ => ?_⟩
  refine ⟨fun z => absurd z (by decide), fun _ => ?_⟩
  refine ⟨fun z => absurd z (by decide), fun _ => ?_⟩
  refine ⟨fun z => absurd z (by decide), fun _ => ?_⟩
  refine ⟨fun z => absurd z (by decide), fun _ => ?_⟩
  refine ⟨fun z => absurd z (by decide), fun _ => ?_⟩
  refine ⟨fun z => absurd z (by decide), fun _ => ?_⟩
  refine ⟨fun z => absurd z (by decide), fun _ => ?_⟩
  refine ⟨fun z => absurd z (by decide), fun _ => ?_⟩
  refine ⟨fun z => absurd z (by decide), fun _ => ?_⟩
  refine ⟨fun z => absurd z (by decide), fun _ => ?_⟩
  refine ⟨fun z => absurd z (by decide), fun _ => ?_⟩
  refine ⟨fun z => absurd z (by decide), fun _ => ?_⟩
  refine ⟨fun z => absurd z (by decide), fun _ => ?_⟩
  refine ⟨fun z => absurd z (by decide), fun _ => ?_⟩
  refine ⟨fun z => absurd z (by decide), fun _ => ?_⟩
  refine ⟨fun z => absurd z (by decide), fun _ => ?_⟩
  refine ⟨fun z => absurd z (by decide), fun _ => ?_⟩
  refine ⟨fun z => absurd z (by decide), fun _ => ?_⟩
  refine ⟨fun z => absurd z (by decide), fun _ => ?_⟩
  refine ⟨fun z => absurd z (by decide), fun _ => ?_⟩
  refine ⟨fun z => absurd z (by decide), fun _ => ?_⟩
  refine ⟨fun z => absurd z (by decide), fun _ => ?_⟩
  refine ⟨fun z => absurd z (by decide), fun _ => ?_⟩
  refine ⟨fun z => absurd z (by decide), fun _ => ?_⟩
  refine ⟨fun z => absurd z (by decide), fun _ => ?_⟩
  refine ⟨fun z => absurd z (by decide), fun _ => ?_⟩
  refine ⟨fun z => absurd z (by decide), fun _ => ?_⟩
  refine ⟨fun z => absurd z (by decide), fun _ => ?_⟩
  refine ⟨fun z => absurd z (by decide), fun _ => ?_⟩
  refine ⟨fun z => absurd z (by decide), fun _ => ?_⟩
  refine ⟨fun z => absurd z (by decide), fun _ => ?_⟩
  refine ⟨fun z => absurd z (by decide), fun _ => ?_⟩
  refine ⟨fun z => absurd z (by decide), fun _ => ?_⟩
  refine ⟨fun z => absurd z (by decide), fun _ => ?_⟩
  refine ⟨fun z => absurd z (by decide), fun _ => ?_⟩
  refine ⟨fun z => absurd z (by decide), fun _ => ?_⟩
  refine ⟨fun z => absurd z (by decide), fun _ => ?_⟩
  refine ⟨fun _ => ?_, fun z => absurd rfl z⟩
  exact f_47_744 hE ⟨by decide, h.k7, by decide, 0, 0, Nat.zero_le _, Nat.zero_le _, c_69_90 hsp h hx (by rw [cW]; exact hag.2.1 (Or.inl rfl)) (fun S' y n1 n2 => f_47_751 hE ⟨trivial, hQ1 S' α y n1 n2⟩)⟩
theorem c_85_92 {a t : Nat} (hsp : ox_mono lw_sp) (hK : K < 2 ^ 31) (h : cE S x α C nc e q st) (hx : xEs1 C nc K e st) (htk : tkW 92 a = some t) (hl : t ≤ st.length) (hg : st.length - t + gvW 92 a ≤ 10) (hag : agW (C e.c).1 92 a) (hb : 92 = 122 → e.b.length < 4) (hb2 : 92 = 87 → e.b ≠ []) (hm : 2 ≤ mr) (hs : 20 ≤ sr) (hQ : ∀ S' α' y, cN x S S' → cX S' x α' C nc e q st (xIns C e q 92 a st) y → Q (some (.inl y)) S') : c_47_106 (ox_M lw_sp (d + 15)) (x + 11) (x + 28 + 5 * e.t.length) (nI 92) (nI a) S mr sr Q := by
  have hE : ox_mono (ox_M lw_sp (d + 15)) := ox_M_mono hsp _
  have et : t = 1 := (Option.some.inj (show some 1 = some t from htk)).symm
  have hg1 : st.length - t + a ≤ 10 := hg
  have s10 := hx.2.2.1
  obtain ⟨v, r, rfl⟩ := ls1 (st := st) (by omega)
  simp only [List.length_cons] at hg1 hl s10
  have hQ1 : ∀ S' α' y, cN x S S' → cX S' x α' C nc e q (v :: r) (xSpr e q a r v) y → Q (some (.inl y)) S' := hQ
  refine f_47_106 hE ?_
  unfold q_47_106
  rw [nI_toInt (show 92 < 2 ^ 31 by decide)]
  refine ⟨fun z => absurd z (by decide), fun _ => ?_⟩
  refine ⟨fun z => absurd z (by decide), fun _ => ?_⟩
  refine ⟨fun z => absurd z (by decide), fun _ => ?_⟩
  refine ⟨fun z => absurd z (by decide), fun _ => ?_⟩
  refine ⟨fun z => absurd z (by decide), fun _ => ?_⟩
  refine ⟨fun z => absurd z (by decide), fun _ => ?_⟩
  refine ⟨fun z => absurd z (by decide), fun _ => ?_⟩
  refine ⟨fun z => absurd z (by decide), fun _ => ?_⟩
  refine ⟨fun z => absurd z (by decide), fun _ => ?_⟩
  refine ⟨fun z => absurd z (by decide), fun _ => ?_⟩
  refine ⟨fun z => absurd z (by decide), fun _ => ?_⟩
  refine ⟨fun z => absurd z (by decide), fun _ => ?_⟩
  refine ⟨fun z => absurd z (by decide), fun _ => ?_⟩
  refine ⟨fun z => absurd z (by decide), fun _ => ?_⟩
  refine ⟨fun z => absurd z (by decide), fun _ => ?_⟩
  refine ⟨fun z => absurd z (by decide), fun _ => ?_⟩
  refine ⟨fun z => absurd z (by decide), fun _ => ?_⟩
  refine ⟨fun z => absurd z (by decide), fun _ => ?_⟩
  refine ⟨fun z => absurd z (by decide), fun _ => ?_⟩
  refine ⟨fun z => absurd z (by decide), fun _ => ?_⟩
  refine ⟨fun z => absurd z (by decide), fun _ => ?_⟩
  refine ⟨fun z => absurd z (by decide), fun _ => ?_⟩
  refine ⟨fun z => absurd z (by decide), fun _ => ?_⟩
  refine ⟨fun z => absurd z (by decide), fun _ => ?_⟩
  refine ⟨fun z => absurd z (by decide), fun _ => ?_⟩
  refine ⟨fun z => absurd z (by decide), fun _ => ?_⟩
  refine ⟨fun z => absurd z (by decide), fun _ => ?_⟩
  refine ⟨fun z => absurd z (by decide), fun _ => ?_⟩
  refine ⟨fun z => absurd z (by decide), fun _ => ?_⟩
  refine ⟨fun z => absurd z (by decide), fun _ => ?_⟩
  refine ⟨fun z => absurd z (by decide), fun _ => ?_⟩
  refine ⟨fun z => absurd z (by decide), fun _ => ?_⟩
  refine ⟨fun z => absurd z (by decide), fun _ => ?_⟩
  refine ⟨fun z => absurd z (by decide), fun _ => ?_⟩
  refine ⟨fun z => absurd z (by decide), fun _ => ?_⟩
  refine ⟨fun z => absurd z (by decide), fun _ => ?_⟩
  refine ⟨fun z => absurd z (by decide), fun _ => ?_⟩
  refine ⟨fun z => absurd z (by decide), fun _ => ?_⟩
  refine ⟨fun z => absurd z (by decide), fun _ => ?_⟩
  refine ⟨fun z => absurd z (by decide), fun _ => ?_⟩
  refine ⟨fun z => absurd z (by decide), fun _ => ?_⟩
  refine ⟨fun z => absurd z (by decide), fun _ => ?_⟩
  refine ⟨fun z => absurd z (by decide), fun _ => ?_⟩
  refine ⟨fun z => absurd z (by decide), fun _ => ?_⟩
  refine ⟨fun z => absurd z (by decide), fun _ => ?_⟩
  refine ⟨fun z => absurd z (by decide), fun _ => ?_⟩
  refine ⟨fun z => absurd z (by decide), fun _ => ?_⟩
  refine ⟨fun z => absurd z (by decide), fun _ => ?_⟩
  refine ⟨fun z => absurd z (by decide), fun _ => ?_⟩
  refine ⟨fun z => absurd z (by decide), fun _ => ?_⟩
  refine ⟨fun z => absurd z (by decide), fun _ => ?_⟩
  refine ⟨fun z => absurd z (by decide), fun _ => ?_⟩
  refine ⟨fun z => absurd z (by decide), fun _ => ?_⟩
  refine ⟨fun z => absurd z (by decide), fun _ => ?_⟩
  refine ⟨fun z => absurd z (by decide), fun _ => ?_⟩
  refine ⟨fun z => absurd z (by decide), fun _ => ?_⟩
  refine ⟨fun z => absurd z (by decide), fun _ => ?_⟩
  refine ⟨fun z => absurd z (by decide), fun _ => ?_⟩
  refine ⟨fun z => absurd z (by decide), fun _ => ?_⟩
  refine ⟨fun z => absurd z (by decide), fun _ => ?_⟩
  refine ⟨fun z => absurd z (by decide), fun _ => ?_⟩
  refine ⟨fun z => absurd z (by decide), fun _ => ?_⟩
  refine ⟨fun z => absurd z (by decide), fun _ => ?_⟩
  refine ⟨fun z => absurd z (by decide), fun _ => ?_⟩
  refine ⟨fun z => absurd z (by decide), fun _ => ?_⟩
  refine ⟨fun z => absurd z (by decide), fun _ => ?_⟩
  refine ⟨fun z => absurd z (by decide), fun _ => ?_⟩
  refine ⟨fun z => absurd z (by decide), fun _ => ?_⟩
  refine ⟨fun z => absurd z (by decide), fun _ => ?_⟩
  refine ⟨fun z => absurd z (by decide), fun _ => ?_⟩
  refine ⟨fun z => absurd z (by decide), fun _ => ?_⟩
  refine ⟨fun z => absurd z (by decide), fun _ => ?_⟩
  refine ⟨fun z => absurd z (by decide), fun _ => ?_⟩
  refine ⟨fun z => absurd z (by decide), fun _ => ?_⟩
  refine ⟨fun z => absurd z (by decide), fun _ => ?_⟩
  refine ⟨fun z => absurd z (by decide), fun _ => ?_⟩
  refine ⟨fun z => absurd z (by decide), fun _ => ?_⟩
  refine ⟨fun z => absurd z (by decide), fun _ => ?_⟩
  refine ⟨fun z => absurd z (by decide), fun _ => ?_⟩
  refine ⟨fun z => absurd z (by decide), fun _ => ?_⟩
  refine ⟨fun z => absurd z (by decide), fun _ => ?_⟩
  refine ⟨fun z => absurd z (by decide), fun _ => ?_⟩
  refine ⟨fun z => absurd z (by decide), fun _ => ?_⟩
  refine ⟨fun z => absurd z (by decide), fun _ => ?_⟩
  refine ⟨fun z => absurd z (by decide), fun _ => ?_⟩
  refine ⟨fun z => absurd z (by decide), fun _ => ?_⟩
  refine ⟨fun z => absurd z (by decide), fun _ => ?_⟩
  refine ⟨fun z => absurd z (by decide), fun _ => ?_⟩
  refine ⟨fun z => absurd z (by decide), fun _ => ?_⟩
  refine ⟨fun z => absurd z (by decide), fun _ => ?_⟩
  refine ⟨fun z => absurd z (by decide), fun _ => ?_⟩
  refine ⟨fun _ => ?_, fun z => absurd rfl z⟩
  exact ⟨by decide, by decide, 0, 0, Nat.zero_le _, Nat.zero_le _, c_65 hsp h hx (hag.2.2.2.1 (Or.inr rfl)) (by omega) (fun S' α' y n1 n2 => f_47_720 hE ⟨trivial, hQ1 S' α' y n1 n2⟩)⟩
theorem c_85_93 {a t : Nat} (hsp : ox_mono lw_sp) (hK : K < 2 ^ 31) (h : cE S x α C nc e q st) (hx : xEs1 C nc K e st) (htk : tkW 93 a = some t) (hl : t ≤ st.length) (hg : st.length - t + gvW 93 a ≤ 10) (hag : agW (C e.c).1 93 a) (hb : 93 = 122 → e.b.length < 4) (hb2 : 93 = 87 → e.b ≠ []) (hm : 2 ≤ mr) (hs : 20 ≤ sr) (hQ : ∀ S' α' y, cN x S S' → cX S' x α' C nc e q st (xIns C e q 93 a st) y → Q (some (.inl y)) S') : c_47_106 (ox_M lw_sp (d + 15)) (x + 11) (x + 28 + 5 * e.t.length) (nI 93) (nI a) S mr sr Q := by
  have hE : ox_mono (ox_M lw_sp (d + 15)) := ox_M_mono hsp _
  have et : t = 1 := (Option.some.inj (show some 1 = some t from htk)).symm
  have hg1 : st.length - t + 2 ≤ 10 := hg
  have s10 := hx.2.2.1
  obtain ⟨v, r, rfl⟩ := ls1 (st := st) (by omega)
  simp only [List.length_cons] at hg1 hl s10
  have hQ1 : ∀ S' α' y, cN x S S' → cX S' x α' C nc e q (v :: r) (xNext e q a r v) y → Q (some (.inl y)) S' := hQ
  refine f_47_106 hE ?_
  unfold q_47_106
  rw [nI_toInt (show 93 < 2 ^ 31 by decide)]
  refine ⟨fun z => absurd z (by decide), fun _ => ?_⟩
  refine ⟨fun z => absurd z (by decide), fun _ => ?_⟩
  refine ⟨fun z => absurd z (by decide), fun _ => ?_⟩
  refine ⟨fun z => absurd z (by decide), fun _ => ?_⟩
  refine ⟨fun z => absurd z (by decide), fun _ => ?_⟩
  refine ⟨fun z => absurd z (by decide), fun _ => ?_⟩
  refine ⟨fun z => absurd z (by decide), fun _ => ?_⟩
  refine ⟨fun z => absurd z (by decide), fun _ => ?_⟩
  refine ⟨fun z => absurd z (by decide), fun _ => ?_⟩
  refine ⟨fun z => absurd z (by decide), fun _ => ?_⟩
  refine ⟨fun z => absurd z (by decide), fun _ => ?_⟩
  refine ⟨fun z => absurd z (by decide), fun _ => ?_⟩
  refine ⟨fun z => absurd z (by decide), fun _ => ?_⟩
  refine ⟨fun z => absurd z (by decide), fun _ => ?_⟩
  refine ⟨fun z => absurd z (by decide), fun _ => ?_⟩
  refine ⟨fun z => absurd z (by decide), fun _ => ?_⟩
  refine ⟨fun z => absurd z (by decide), fun _ => ?_⟩
  refine ⟨fun z => absurd z (by decide), fun _ => ?_⟩
  refine ⟨fun z => absurd z (by decide), fun _ => ?_⟩
  refine ⟨fun z => absurd z (by decide), fun _ => ?_⟩
  refine ⟨fun z => absurd z (by decide), fun _ => ?_⟩
  refine ⟨fun z => absurd z (by decide), fun _ => ?_⟩
  refine ⟨fun z => absurd z (by decide), fun _ => ?_⟩
  refine ⟨fun z => absurd z (by decide), fun _ => ?_⟩
  refine ⟨fun z => absurd z (by decide), fun _ => ?_⟩
  refine ⟨fun z => absurd z (by decide), fun _ => ?_⟩
  refine ⟨fun z => absurd z (by decide), fun _ => ?_⟩
  refine ⟨fun z => absurd z (by decide), fun _ => ?_⟩
  refine ⟨fun z => absurd z (by decide), fun _ => ?_⟩
  refine ⟨fun z => absurd z (by decide), fun _ => ?_⟩
  refine ⟨fun z => absurd z (by decide), fun _ => ?_⟩
  refine ⟨fun z => absurd z (by decide), fun _ => ?_⟩
  refine ⟨fun z => absurd z (by decide), fun _ => ?_⟩
  refine ⟨fun z => absurd z (by decide), fun _ => ?_⟩
  refine ⟨fun z => absurd z (by decide), fun _ => ?_⟩
  refine ⟨fun z => absurd z (by decide), fun _ => ?_⟩
  refine ⟨fun z => absurd z (by decide), fun _ => ?_⟩
  refine ⟨fun z => absurd z (by decide), fun _ => ?_⟩
  refine ⟨fun z => absurd z (by decide), fun _ => ?_⟩
  refine ⟨fun z => absurd z (by decide), fun _ => ?_⟩
  refine ⟨fun z => absurd z (by decide), fun _ => ?_⟩
  refine ⟨fun z => absurd z (by decide), fun _ => ?_⟩
  refine ⟨fun z => absurd z (by decide), fun _ => ?_⟩
  refine ⟨fun z => absurd z (by decide), fun _ => ?_⟩
  refine ⟨fun z => absurd z (by decide), fun _ => ?_⟩
  refine ⟨fun z => absurd z (by decide), fun _ => ?_⟩
  refine ⟨fun z => absurd z (by decide), fun _ => ?_⟩
  refine ⟨fun z => absurd z (by decide), fun _ => ?_⟩
  refine ⟨fun z => absurd z (by decide), fun _ => ?_⟩
  refine ⟨fun z => absurd z (by decide), fun _ => ?_⟩
  refine ⟨fun z => absurd z (by decide), fun _ => ?_⟩
  refine ⟨fun z => absurd z (by decide), fun _ => ?_⟩
  refine ⟨fun z => absurd z (by decide), fun _ => ?_⟩
  refine ⟨fun z => absurd z (by decide), fun _ => ?_⟩
  refine ⟨fun z => absurd z (by decide), fun _ => ?_⟩
  refine ⟨fun z => absurd z (by decide), fun _ => ?_⟩
  refine ⟨fun z => absurd z (by decide), fun _ => ?_⟩
  refine ⟨fun z => absurd z (by decide), fun _ => ?_⟩
  refine ⟨fun z => absurd z (by decide), fun _ => ?_⟩
  refine ⟨fun z => absurd z (by decide), fun _ => ?_⟩
  refine ⟨fun z => absurd z (by decide), fun _ => ?_⟩
  refine ⟨fun z => absurd z (by decide), fun _ => ?_⟩
  refine ⟨fun z => absurd z (by decide), fun _ => ?_⟩
  refine ⟨fun z => absurd z (by decide), fun _ => ?_⟩
  refine ⟨fun z => absurd z (by decide), fun _ => ?_⟩
  refine ⟨fun z => absurd z (by decide), fun _ => ?_⟩
  refine ⟨fun z => absurd z (by decide), fun _ => ?_⟩
  refine ⟨fun z => absurd z (by decide), fun _ => ?_⟩
  refine ⟨fun z => absurd z (by decide), fun _ => ?_⟩
  refine ⟨fun z => absurd z (by decide), fun _ => ?_⟩
  refine ⟨fun z => absurd z (by decide), fun _ => ?_⟩
  refine ⟨fun z => absurd z (by decide), fun _ => ?_⟩
  refine ⟨fun z => absurd z (by decide), fun _ => ?_⟩
  refine ⟨fun z => absurd z (by decide), fun _ => ?_⟩
  refine ⟨fun z => absurd z (by decide), fun _ => ?_⟩
  refine ⟨fun z => absurd z (by decide), fun _ => ?_⟩
  refine ⟨fun z => absurd z (by decide), fun _ => ?_⟩
  refine ⟨fun z => absurd z (by decide), fun _ => ?_⟩
  refine ⟨fun z => absurd z (by decide), fun _ => ?_⟩
  refine ⟨fun z => absurd z (by decide), fun _ => ?_⟩
  refine ⟨fun z => absurd z (by decide), fun _ => ?_⟩
  refine ⟨fun z => absurd z (by decide), fun _ => ?_⟩
  refine ⟨fun z => absurd z (by decide), fun _ => ?_⟩
  refine ⟨fun z => absurd z (by decide), fun _ => ?_⟩
  refine ⟨fun z => absurd z (by decide), fun _ => ?_⟩
  refine ⟨fun z => absurd z (by decide), fun _ => ?_⟩
  refine ⟨fun z => absurd z (by decide), fun _ => ?_⟩
  refine ⟨fun z => absurd z (by decide), fun _ => ?_⟩
  refine ⟨fun z => absurd z (by decide), fun _ => ?_⟩
  refine ⟨fun z => absurd z (by decide), fun _ => ?_⟩
  refine ⟨fun z => absurd z (by decide), fun _ => ?_⟩
  refine ⟨fun z => absurd z (by decide), fun _ => ?_⟩
  refine ⟨fun _ => ?_, fun z => absurd rfl z⟩
  exact ⟨by decide, by decide, 2, 20, hm, hs, c_67 hK h hx (by omega) (Nat.le_refl _) (Nat.le_refl _) (fun S' α' y n1 n2 => f_47_708 hE ⟨trivial, hQ1 S' α' y n1 n2⟩)⟩
theorem c_85_100 {a t : Nat} (hsp : ox_mono lw_sp) (hK : K < 2 ^ 31) (h : cE S x α C nc e q st) (hx : xEs1 C nc K e st) (htk : tkW 100 a = some t) (hl : t ≤ st.length) (hg : st.length - t + gvW 100 a ≤ 10) (hag : agW (C e.c).1 100 a) (hb : 100 = 122 → e.b.length < 4) (hb2 : 100 = 87 → e.b ≠ []) (hm : 2 ≤ mr) (hs : 20 ≤ sr) (hQ : ∀ S' α' y, cN x S S' → cX S' x α' C nc e q st (xIns C e q 100 a st) y → Q (some (.inl y)) S') : c_47_106 (ox_M lw_sp (d + 15)) (x + 11) (x + 28 + 5 * e.t.length) (nI 100) (nI a) S mr sr Q := by
  have hE : ox_mono (ox_M lw_sp (d + 15)) := ox_M_mono hsp _
  have et : t = 0 := (Option.some.inj (show some 0 = some t from htk)).symm
  have hg1 : st.length - t + 1 ≤ 10 := hg
  have s10 := hx.2.2.1
  obtain ⟨⟨-, -, o3, -⟩, -, cK, cW, -⟩ := hx.1.2.1 e.c hx.1.2.2.2.1
  have hQ1 : ∀ S' α' y, cN x S S' → cX S' x α' C nc e q st (xGo e q ((C e.c).2.1.getD a 0 :: st)) y → Q (some (.inl y)) S' := hQ
  refine f_47_106 hE ?_
  unfold q_47_106
  rw [nI_toInt (show 100 < 2 ^ 31 by decide)]
  refine ⟨fun z => absurd z (by decide), fun _ => ?_⟩
  refine ⟨fun z => absurd z (by decide), fun _ => ?_⟩
  refine ⟨fun z => absurd z (by decide), fun _ => ?_⟩
  refine ⟨fun z => absurd z (by decide), fun _ => ?_⟩
  refine ⟨fun z => absurd z (by decide), fun _ => ?_⟩
  refine ⟨fun z => absurd z (by decide), fun _ => ?_⟩
  refine ⟨fun z => absurd z (by decide), fun _ => ?_⟩
  refine ⟨fun z => absurd z (by decide), fun _ => ?_⟩
  refine ⟨fun z => absurd z (by decide), fun _ => ?_⟩
  refine ⟨fun z => absurd z (by decide), fun _ => ?_⟩
  refine ⟨fun z => absurd z (by decide), fun _ => ?_⟩
  refine ⟨fun z => absurd z (by decide), fun _ => ?_⟩
  refine ⟨fun z => absurd z (by decide), fun _ => ?_⟩
  refine ⟨fun z => absurd z (by decide), fun _ => ?_⟩
  refine ⟨fun z => absurd z (by decide), fun _ => ?_⟩
  refine ⟨fun z => absurd z (by decide), fun _ => ?_⟩
  refine ⟨fun z => absurd z (by decide), fun _ => ?_⟩
  refine ⟨fun z => absurd z (by decide), fun _ => ?_⟩
  refine ⟨fun z => absurd z (by decide), fun _ => ?_⟩
  refine ⟨fun z => absurd z (by decide), fun _ => ?_⟩
  refine ⟨fun z => absurd z (by decide), fun _ => ?_⟩
  refine ⟨fun z => absurd z (by decide), fun _ => ?_⟩
  refine ⟨fun z => absurd z (by decide), fun _ => ?_⟩
  refine ⟨fun z => absurd z (by decide), fun _ => ?_⟩
  refine ⟨fun z => absurd z (by decide), fun _ => ?_⟩
  refine ⟨fun z => absurd z (by decide), fun _ => ?_⟩
  refine ⟨fun z => absurd z (by decide), fun _ => ?_⟩
  refine ⟨fun z => absurd z (by decide), fun _ => ?_⟩
  refine ⟨fun z => absurd z (by decide), fun _ => ?_⟩
  refine ⟨fun z => absurd z (by decide), fun _ => ?_⟩
  refine ⟨fun z => absurd z (by decide), fun _ => ?_⟩
  refine ⟨fun z => absurd z (by decide), fun _ => ?_⟩
  refine ⟨fun z => absurd z (by decide), fun _ => ?_⟩
  refine ⟨fun z => absurd z (by decide), fun _ => ?_⟩
  refine ⟨fun z => absurd z (by decide), fun _ => ?_⟩
  refine ⟨fun z => absurd z (by decide), fun _ => ?_⟩
  refine ⟨fun z => absurd z (by decide), fun _ => ?_⟩
  refine ⟨fun z => absurd z (by decide), fun _ => ?_⟩
  refine ⟨fun z => absurd z (by decide), fun _ => ?_⟩
  refine ⟨fun z => absurd z (by decide), fun _ => ?_⟩
  refine ⟨fun z => absurd z (by decide), fun _ => ?_⟩
  refine ⟨fun z => absurd z (by decide), fun _ => ?_⟩
  refine ⟨fun z => absurd z (by decide), fun _ => ?_⟩
  refine ⟨fun z => absurd z (by decide), fun _ => ?_⟩
  refine ⟨fun z => absurd z (by decide), fun _ => ?_⟩
  refine ⟨fun z => absurd z (by decide), fun _ => ?_⟩
  refine ⟨fun z => absurd z (by decide), fun _ => ?_⟩
  refine ⟨fun z => absurd z (by decide), fun _ => ?_⟩
  refine ⟨fun z => absurd z (by decide), fun _ => ?_⟩
  refine ⟨fun z => absurd z (by decide), fun _ => ?_⟩
  refine ⟨fun z => absurd z (by decide), fun _ => ?_⟩
  refine ⟨fun z => absurd z (by decide), fun _ => ?_⟩
  refine ⟨fun z => absurd z (by decide), fun _ => ?_⟩
  refine ⟨fun z => absurd z (by decide), fun _ => ?_⟩
  refine ⟨fun z => absurd z (by decide), fun _ => ?_⟩
  refine ⟨fun z => absurd z (by decide), fun _ => ?_⟩
  refine ⟨fun z => absurd z (by decide), fun _ => ?_⟩
  refine ⟨fun z => absurd z (by decide), fun _ => ?_⟩
  refine ⟨fun z => absurd z (by decide), fun _ => ?_⟩
  refine ⟨fun z => absurd z (by decide), fun _ => ?_⟩
  refine ⟨fun z => absurd z (by decide), fun _ => ?_⟩
  refine ⟨fun z => absurd z (by decide), fun _ => ?_⟩
  refine ⟨fun z => absurd z (by decide), fun _ => ?_⟩
  refine ⟨fun z => absurd z (by decide), fun _ => ?_⟩
  refine ⟨fun z => absurd z (by decide), fun _ => ?_⟩
  refine ⟨fun z => absurd z (by decide), fun _ => ?_⟩
  refine ⟨fun z => absurd z (by decide), fun _ => ?_⟩
  refine ⟨fun z => absurd z (by decide), fun _ => ?_⟩
  refine ⟨fun z => absurd z (by decide), fun _ => ?_⟩
  refine ⟨fun z => absurd z (by decide), fun _ => ?_⟩
  refine ⟨fun z => absurd z (by decide), fun _ => ?_⟩
  refine ⟨fun z => absurd z (by decide), fun _ => ?_⟩
  refine ⟨fun z => absurd z (by decide), fun _ => ?_⟩
  refine ⟨fun z => absurd z (by decide), fun _ => ?_⟩
  refine ⟨fun z => absurd z (by decide), fun _ => ?_⟩
  refine ⟨fun z => absurd z (by decide), fun _ => ?_⟩
  refine ⟨fun z => absurd z (by decide), fun _ => ?_⟩
  refine ⟨fun z => absurd z (by decide), fun _ => ?_⟩
  refine ⟨fun z => absurd z (by decide), fun _ => ?_⟩
  refine ⟨fun z => absurd z (by decide), fun _ => ?_⟩
  refine ⟨fun z => absurd z (by decide), fun _ => ?_⟩
  refine ⟨fun z => absurd z (by decide), fun _ => ?_⟩
  refine ⟨fun z => absurd z (by decide), fun _ => ?_⟩
  refine ⟨fun z => absurd z (by decide), fun _ => ?_⟩
  refine ⟨fun z => absurd z (by decide), fun _ => ?_⟩
  refine ⟨fun z => absurd z (by decide), fun _ => ?_⟩
  refine ⟨fun z => absurd z (by decide), fun _ => ?_⟩
  refine ⟨fun z => absurd z (by decide), fun _ => ?_⟩
  refine ⟨fun z => absurd z (by decide), fun _ => ?_⟩
  refine ⟨fun z => absurd z (by decide), fun _ => ?_⟩
  refine ⟨fun z => absurd z (by decide), fun _ => ?_⟩
  refine ⟨fun z => absurd z (by decide), fun _ => ?_⟩
  refine ⟨fun z => absurd z (by decide), fun _ => ?_⟩
  refine ⟨fun z => absurd z (by decide), fun _ => ?_⟩
  refine ⟨fun z => absurd z (by decide), fun _ => ?_⟩
  refine ⟨fun z => absurd z (by decide), fun _ => ?_⟩
  refine ⟨fun z => absurd z (by decide), fun _ => ?_⟩
  refine ⟨fun z => absurd z (by decide), fun _ => ?_⟩
  refine ⟨fun z => absurd z (by decide), fun _ => ?_⟩
  refine ⟨fun _ => ?_, fun z => absurd rfl z⟩
  exact f_47_736 hE ⟨by decide, h.k7, by decide, 0, 0, Nat.zero_le _, Nat.zero_le _, c_68_100 hsp h hx (by rw [cK]; exact hag.1 rfl) (by omega) (fun S' n1 n2 => f_47_743 hE ⟨trivial, hQ1 S' α (-1) n1 (cX_go n2)⟩)⟩
theorem c_85_101 {a t : Nat} (hsp : ox_mono lw_sp) (hK : K < 2 ^ 31) (h : cE S x α C nc e q st) (hx : xEs1 C nc K e st) (htk : tkW 101 a = some t) (hl : t ≤ st.length) (hg : st.length - t + gvW 101 a ≤ 10) (hag : agW (C e.c).1 101 a) (hb : 101 = 122 → e.b.length < 4) (hb2 : 101 = 87 → e.b ≠ []) (hm : 2 ≤ mr) (hs : 20 ≤ sr) (hQ : ∀ S' α' y, cN x S S' → cX S' x α' C nc e q st (xIns C e q 101 a st) y → Q (some (.inl y)) S') : c_47_106 (ox_M lw_sp (d + 15)) (x + 11) (x + 28 + 5 * e.t.length) (nI 101) (nI a) S mr sr Q := by
  have hE : ox_mono (ox_M lw_sp (d + 15)) := ox_M_mono hsp _
  have et : t = 0 := (Option.some.inj (show some 0 = some t from htk)).symm
  have hg1 : st.length - t + 1 ≤ 10 := hg
  have s10 := hx.2.2.1
  obtain ⟨⟨-, -, o3, -⟩, -, cK, cW, -⟩ := hx.1.2.1 e.c hx.1.2.2.2.1
  have hQ1 : ∀ S' α' y, cN x S S' → cX S' x α' C nc e q st (xName e q ((C e.c).2.2.getD a 0) st) y → Q (some (.inl y)) S' := hQ
  refine f_47_106 hE ?_
  unfold q_47_106
  rw [nI_toInt (show 101 < 2 ^ 31 by decide)]
  refine ⟨fun z => absurd z (by decide), fun _ => ?_⟩
  refine ⟨fun z => absurd z (by decide), fun _ => ?_⟩
  refine ⟨fun z => absurd z (by decide), fun _ => ?_⟩
  refine ⟨fun z => absurd z (by decide), fun _ => ?_⟩
  refine ⟨fun z => absurd z (by decide), fun _ => ?_⟩
  refine ⟨fun z => absurd z (by decide), fun _ => ?_⟩
  refine ⟨fun z => absurd z (by decide), fun _ => ?_⟩
  refine ⟨fun z => absurd z (by decide), fun _ => ?_⟩
  refine ⟨fun z => absurd z (by decide), fun _ => ?_⟩
  refine ⟨fun z => absurd z (by decide), fun _ => ?_⟩
  refine ⟨fun z => absurd z (by decide), fun _ => ?_⟩
  refine ⟨fun z => absurd z (by decide), fun _ => ?_⟩
  refine ⟨fun z => absurd z (by decide), fun _ => ?_⟩
  refine ⟨fun z => absurd z (by decide), fun _ => ?_⟩
  refine ⟨fun z => absurd z (by decide), fun _ => ?_⟩
  refine ⟨fun z => absurd z (by decide), fun _ => ?_⟩
  refine ⟨fun z => absurd z (by decide), fun _ => ?_⟩
  refine ⟨fun z => absurd z (by decide), fun _ => ?_⟩
  refine ⟨fun z => absurd z (by decide), fun _ => ?_⟩
  refine ⟨fun z => absurd z (by decide), fun _ => ?_⟩
  refine ⟨fun z => absurd z (by decide), fun _ => ?_⟩
  refine ⟨fun z => absurd z (by decide), fun _ => ?_⟩
  refine ⟨fun z => absurd z (by decide), fun _ => ?_⟩
  refine ⟨fun z => absurd z (by decide), fun _ => ?_⟩
  refine ⟨fun z => absurd z (by decide), fun _ => ?_⟩
  refine ⟨fun z => absurd z (by decide), fun _ => ?_⟩
  refine ⟨fun z => absurd z (by decide), fun _ => ?_⟩
  refine ⟨fun z => absurd z (by decide), fun _ => ?_⟩
  refine ⟨fun z => absurd z (by decide), fun _ => ?_⟩
  refine ⟨fun z => absurd z (by decide), fun _ => ?_⟩
  refine ⟨fun z => absurd z (by decide), fun _ => ?_⟩
  refine ⟨fun z => absurd z (by decide), fun _ => ?_⟩
  refine ⟨fun z => absurd z (by decide), fun _ => ?_⟩
  refine ⟨fun z => absurd z (by decide), fun _ => ?_⟩
  refine ⟨fun z => absurd z (by decide), fun _ => ?_⟩
  refine ⟨fun z => absurd z (by decide), fun _ => ?_⟩
  refine ⟨fun z => absurd z (by decide), fun _ => ?_⟩
  refine ⟨fun z => absurd z (by decide), fun _ => ?_⟩
  refine ⟨fun z => absurd z (by decide), fun _ => ?_⟩
  refine ⟨fun z => absurd z (by decide), fun _ => ?_⟩
  refine ⟨fun z => absurd z (by decide), fun _ => ?_⟩
  refine ⟨fun z => absurd z (by decide), fun _ => ?_⟩
  refine ⟨fun z => absurd z (by decide), fun _ => ?_⟩
  refine ⟨fun z => absurd z (by decide), fun _ => ?_⟩
  refine ⟨fun z => absurd z (by decide), fun _ => ?_⟩
  refine ⟨fun z => absurd z (by decide), fun _ => ?_⟩
  refine ⟨fun z => absurd z (by decide), fun _ => ?_⟩
  refine ⟨fun z => absurd z (by decide), fun _ => ?_⟩
  refine ⟨fun z => absurd z (by decide), fun _ => ?_⟩
  refine ⟨fun z => absurd z (by decide), fun _ => ?_⟩
  refine ⟨fun z => absurd z (by decide), fun _ => ?_⟩
  refine ⟨fun z => absurd z (by decide), fun _ => ?_⟩
  refine ⟨fun z => absurd z (by decide), fun _ => ?_⟩
  refine ⟨fun z => absurd z (by decide), fun _ => ?_⟩
  refine ⟨fun z => absurd z (by decide), fun _ => ?_⟩
  refine ⟨fun z => absurd z (by decide), fun _ => ?_⟩
  refine ⟨fun z => absurd z (by decide), fun _ => ?_⟩
  refine ⟨fun z => absurd z (by decide), fun _ => ?_⟩
  refine ⟨fun z => absurd z (by decide), fun _ => ?_⟩
  refine ⟨fun z => absurd z (by decide), fun _ => ?_⟩
  refine ⟨fun z => absurd z (by decide), fun _ => ?_⟩
  refine ⟨fun z => absurd z (by decide), fun _ => ?_⟩
  refine ⟨fun z => absurd z (by decide), fun _ => ?_⟩
  refine ⟨fun z => absurd z (by decide), fun _ => ?_⟩
  refine ⟨fun z => absurd z (by decide), fun _ => ?_⟩
  refine ⟨fun z => absurd z (by decide), fun _ => ?_⟩
  refine ⟨fun z => absurd z (by decide), fun _ => ?_⟩
  refine ⟨fun z => absurd z (by decide), fun _ => ?_⟩
  refine ⟨fun z => absurd z (by decide), fun _ => ?_⟩
  refine ⟨fun z => absurd z (by decide), fun _ => ?_⟩
  refine ⟨fun z => absurd z (by decide), fun _ => ?_⟩
  refine ⟨fun z => absurd z (by decide), fun _ => ?_⟩
  refine ⟨fun z => absurd z (by decide), fun _ => ?_⟩
  refine ⟨fun z => absurd z (by decide), fun _ => ?_⟩
  refine ⟨fun z => absurd z (by decide), fun _ => ?_⟩
  refine ⟨fun z => absurd z (by decide), fun _ => ?_⟩
  refine ⟨fun z => absurd z (by decide), fun _ => ?_⟩
  refine ⟨fun z => absurd z (by decide), fun _ => ?_⟩
  refine ⟨fun z => absurd z (by decide), fun _ => ?_⟩
  refine ⟨fun z => absurd z (by decide), fun _ => ?_⟩
  refine ⟨fun z => absurd z (by decide), fun _ => ?_⟩
  refine ⟨fun z => absurd z (by decide), fun _ => ?_⟩
  refine ⟨fun z => absurd z (by decide), fun _ => ?_⟩
  refine ⟨fun z => absurd z (by decide), fun _ => ?_⟩
  refine ⟨fun z => absurd z (by decide), fun _ => ?_⟩
  refine ⟨fun z => absurd z (by decide), fun _ => ?_⟩
  refine ⟨fun z => absurd z (by decide), fun _ => ?_⟩
  refine ⟨fun z => absurd z (by decide), fun _ => ?_⟩
  refine ⟨fun z => absurd z (by decide), fun _ => ?_⟩
  refine ⟨fun z => absurd z (by decide), fun _ => ?_⟩
  refine ⟨fun z => absurd z (by decide), fun _ => ?_⟩
  refine ⟨fun z => absurd z (by decide), fun _ => ?_⟩
  refine ⟨fun z => absurd z (by decide), fun _ => ?_⟩
  refine ⟨fun z => absurd z (by decide), fun _ => ?_⟩
  refine ⟨fun z => absurd z (by decide), fun _ => ?_⟩
  refine ⟨fun z => absurd z (by decide), fun _ => ?_⟩
  refine ⟨fun z => absurd z (by decide), fun _ => ?_⟩
  refine ⟨fun z => absurd z (by decide), fun _ => ?_⟩
  refine ⟨fun z => absurd z (by decide), fun _ => ?_⟩
  refine ⟨fun z => absurd z (by decide), fun _ => ?_⟩
  refine ⟨fun _ => ?_, fun z => absurd rfl z⟩
  exact f_47_736 hE ⟨by decide, h.k7, by decide, 0, 0, Nat.zero_le _, Nat.zero_le _, c_68_101 hsp h hx (by rw [cW]; exact hag.2.1 (Or.inr rfl)) (by omega) (fun S' y n1 n2 => f_47_743 hE ⟨trivial, hQ1 S' α y n1 n2⟩)⟩
theorem c_85_102 {a t : Nat} (hsp : ox_mono lw_sp) (hK : K < 2 ^ 31) (h : cE S x α C nc e q st) (hx : xEs1 C nc K e st) (htk : tkW 102 a = some t) (hl : t ≤ st.length) (hg : st.length - t + gvW 102 a ≤ 10) (hag : agW (C e.c).1 102 a) (hb : 102 = 122 → e.b.length < 4) (hb2 : 102 = 87 → e.b ≠ []) (hm : 2 ≤ mr) (hs : 20 ≤ sr) (hQ : ∀ S' α' y, cN x S S' → cX S' x α' C nc e q st (xIns C e q 102 a st) y → Q (some (.inl y)) S') : c_47_106 (ox_M lw_sp (d + 15)) (x + 11) (x + 28 + 5 * e.t.length) (nI 102) (nI a) S mr sr Q := by
  have hE : ox_mono (ox_M lw_sp (d + 15)) := ox_M_mono hsp _
  have et : t = a := (Option.some.inj (show some a = some t from htk)).symm
  have hg1 : st.length - t + 1 ≤ 10 := hg
  have s10 := hx.2.2.1
  have hQ1 : ∀ S' α' y, cN x S S' → cX S' x α' C nc e q st (xTp e q (st.take a) (st.drop a)) y → Q (some (.inl y)) S' := hQ
  refine f_47_106 hE ?_
  unfold q_47_106
  rw [nI_toInt (show 102 < 2 ^ 31 by decide)]
  refine ⟨fun z => absurd z (by decide), fun _ => ?_⟩
  refine ⟨fun z => absurd z (by decide), fun _ => ?_⟩
  refine ⟨fun z => absurd z (by decide), fun _ => ?_⟩
  refine ⟨fun z => absurd z (by decide), fun _ => ?_⟩
  refine ⟨fun z => absurd z (by decide), fun _ => ?_⟩
  refine ⟨fun z => absurd z (by decide), fun _ => ?_⟩
  refine ⟨fun z => absurd z (by decide), fun _ => ?_⟩
  refine ⟨fun z => absurd z (by decide), fun _ => ?_⟩
  refine ⟨fun z => absurd z (by decide), fun _ => ?_⟩
  refine ⟨fun z => absurd z (by decide), fun _ => ?_⟩
  refine ⟨fun z => absurd z (by decide), fun _ => ?_⟩
  refine ⟨fun z => absurd z (by decide), fun _ => ?_⟩
  refine ⟨fun z => absurd z (by decide), fun _ => ?_⟩
  refine ⟨fun z => absurd z (by decide), fun _ => ?_⟩
  refine ⟨fun z => absurd z (by decide), fun _ => ?_⟩
  refine ⟨fun z => absurd z (by decide), fun _ => ?_⟩
  refine ⟨fun z => absurd z (by decide), fun _ => ?_⟩
  refine ⟨fun z => absurd z (by decide), fun _ => ?_⟩
  refine ⟨fun z => absurd z (by decide), fun _ => ?_⟩
  refine ⟨fun z => absurd z (by decide), fun _ => ?_⟩
  refine ⟨fun z => absurd z (by decide), fun _ => ?_⟩
  refine ⟨fun z => absurd z (by decide), fun _ => ?_⟩
  refine ⟨fun z => absurd z (by decide), fun _ => ?_⟩
  refine ⟨fun z => absurd z (by decide), fun _ => ?_⟩
  refine ⟨fun z => absurd z (by decide), fun _ => ?_⟩
  refine ⟨fun z => absurd z (by decide), fun _ => ?_⟩
  refine ⟨fun z => absurd z (by decide), fun _ => ?_⟩
  refine ⟨fun z => absurd z (by decide), fun _ => ?_⟩
  refine ⟨fun z => absurd z (by decide), fun _ => ?_⟩
  refine ⟨fun z => absurd z (by decide), fun _ => ?_⟩
  refine ⟨fun z => absurd z (by decide), fun _ => ?_⟩
  refine ⟨fun z => absurd z (by decide), fun _ => ?_⟩
  refine ⟨fun z => absurd z (by decide), fun _ => ?_⟩
  refine ⟨fun z => absurd z (by decide), fun _ => ?_⟩
  refine ⟨fun z => absurd z (by decide), fun _ => ?_⟩
  refine ⟨fun z => absurd z (by decide), fun _ => ?_⟩
  refine ⟨fun z => absurd z (by decide), fun _ => ?_⟩
  refine ⟨fun z => absurd z (by decide), fun _ => ?_⟩
  refine ⟨fun z => absurd z (by decide), fun _ => ?_⟩
  refine ⟨fun z => absurd z (by decide), fun _ => ?_⟩
  refine ⟨fun z => absurd z (by decide), fun _ => ?_⟩
  refine ⟨fun z => absurd z (by decide), fun _ => ?_⟩
  refine ⟨fun z => absurd z (by decide), fun _ => ?_⟩
  refine ⟨fun z => absurd z (by decide), fun _ => ?_⟩
  refine ⟨fun z => absurd z (by decide), fun _ => ?_⟩
  refine ⟨fun z => absurd z (by decide), fun _ => ?_⟩
  refine ⟨fun z => absurd z (by decide), fun _ => ?_⟩
  refine ⟨fun z => absurd z (by decide), fun _ => ?_⟩
  refine ⟨fun z => absurd z (by decide), fun _ => ?_⟩
  refine ⟨fun z => absurd z (by decide), fun _ => ?_⟩
  refine ⟨fun z => absurd z (by decide), fun _ => ?_⟩
  refine ⟨fun z => absurd z (by decide), fun _ => ?_⟩
  refine ⟨fun z => absurd z (by decide), fun _ => ?_⟩
  refine ⟨fun z => absurd z (by decide), fun _ => ?_⟩
  refine ⟨fun z => absurd z (by decide), fun _ => ?_⟩
  refine ⟨fun z => absurd z (by decide), fun _ => ?_⟩
  refine ⟨fun z => absurd z (by decide), fun _ => ?_⟩
  refine ⟨fun z => absurd z (by decide), fun _ => ?_⟩
  refine ⟨fun z => absurd z (by decide), fun _ => ?_⟩
  refine ⟨fun z => absurd z (by decide), fun _ => ?_⟩
  refine ⟨fun z => absurd z (by decide), fun _ => ?_⟩
  refine ⟨fun z => absurd z (by decide), fun _ => ?_⟩
  refine ⟨fun z => absurd z (by decide), fun _ => ?_⟩
  refine ⟨fun z => absurd z (by decide), fun _ => ?_⟩
  refine ⟨fun z => absurd z (by decide), fun _ => ?_⟩
  refine ⟨fun z => absurd z (by decide), fun _ => ?_⟩
  refine ⟨fun z => absurd z (by decide), fun _ => ?_⟩
  refine ⟨fun z => absurd z (by decide), fun _ => ?_⟩
  refine ⟨fun z => absurd z (by decide), fun _ => ?_⟩
  refine ⟨fun z => absurd z (by decide), fun _ => ?_⟩
  refine ⟨fun z => absurd z (by decide), fun _ => ?_⟩
  refine ⟨fun z => absurd z (by decide), fun _ => ?_⟩
  refine ⟨fun z => absurd z (by decide), fun _ => ?_⟩
  refine ⟨fun z => absurd z (by decide), fun _ => ?_⟩
  refine ⟨fun z => absurd z (by decide), fun _ => ?_⟩
  refine ⟨fun z => absurd z (by decide), fun _ => ?_⟩
  refine ⟨fun z => absurd z (by decide), fun _ => ?_⟩
  refine ⟨fun z => absurd z (by decide), fun _ => ?_⟩
  refine ⟨fun z => absurd z (by decide), fun _ => ?_⟩
  refine ⟨fun z => absurd z (by decide), fun _ => ?_⟩
  refine ⟨fun z => absurd z (by decide), fun _ => ?_⟩
  refine ⟨fun z => absurd z (by decide), fun _ => ?_⟩
  refine ⟨fun z => absurd z (by decide), fun _ => ?_⟩
  refine ⟨fun z => absurd z (by decide), fun _ => ?_⟩
  refine ⟨fun z => absurd z (by decide), fun _ => ?_⟩
  refine ⟨fun z => absurd z (by decide), fun _ => ?_⟩
  refine ⟨fun z => absurd z (by decide), fun _ => ?_⟩
  refine ⟨fun z => absurd z (by decide), fun _ => ?_⟩
  refine ⟨fun z => absurd z (by decide), fun _ => ?_⟩
  refine ⟨fun z => absurd z (by decide), fun _ => ?_⟩
  refine ⟨fun z => absurd z (by decide), fun _ => ?_⟩
  refine ⟨fun z => absurd z (by decide), fun _ => ?_⟩
  refine ⟨fun z => absurd z (by decide), fun _ => ?_⟩
  refine ⟨fun z => absurd z (by decide), fun _ => ?_⟩
  refine ⟨fun z => absurd z (by decide), fun _ => ?_⟩
  refine ⟨fun z => absurd z (by decide), fun _ => ?_⟩
  refine ⟨fun z => absurd z (by decide), fun _ => ?_⟩
  refine ⟨fun z => absurd z (by decide), fun _ => ?_⟩
  refine ⟨fun z => absurd z (by decide), fun _ => ?_⟩
  refine ⟨fun z => absurd z (by decide), fun _ => ?_⟩
  refine ⟨fun z => absurd z (by decide), fun _ => ?_⟩
  refine ⟨fun _ => ?_, fun z => absurd rfl z⟩
  exact ⟨by decide, by decide, 2, 20, hm, hs, c_64 h hx (by omega) (by omega) (hag.2.2.2.1 (Or.inl rfl)) (Nat.le_refl _) (Nat.le_refl _) (fun S' α' y n1 n2 => f_47_714 hE ⟨trivial, hQ1 S' α' y n1 n2⟩)⟩
theorem c_85_107 {a t : Nat} (hsp : ox_mono lw_sp) (hK : K < 2 ^ 31) (h : cE S x α C nc e q st) (hx : xEs1 C nc K e st) (htk : tkW 107 a = some t) (hl : t ≤ st.length) (hg : st.length - t + gvW 107 a ≤ 10) (hag : agW (C e.c).1 107 a) (hb : 107 = 122 → e.b.length < 4) (hb2 : 107 = 87 → e.b ≠ []) (hm : 2 ≤ mr) (hs : 20 ≤ sr) (hQ : ∀ S' α' y, cN x S S' → cX S' x α' C nc e q st (xIns C e q 107 a st) y → Q (some (.inl y)) S') : c_47_106 (ox_M lw_sp (d + 15)) (x + 11) (x + 28 + 5 * e.t.length) (nI 107) (nI a) S mr sr Q := by
  have hE : ox_mono (ox_M lw_sp (d + 15)) := ox_M_mono hsp _
  have et : t = 2 := (Option.some.inj (show some 2 = some t from htk)).symm
  have hg1 : st.length - t + 1 ≤ 10 := hg
  have s10 := hx.2.2.1
  obtain ⟨u, v, r, rfl⟩ := ls2 (st := st) (by omega)
  simp only [List.length_cons] at hg1 hl s10
  have hQ1 : ∀ S' α' y, cN x S S' → cX S' x α' C nc e q (u :: v :: r) (xCmp e q a r v u) y → Q (some (.inl y)) S' := hQ
  refine f_47_106 hE ?_
  unfold q_47_106
  rw [nI_toInt (show 107 < 2 ^ 31 by decide)]
  refine ⟨fun z => absurd z (by decide), fun _ => ?_⟩
  refine ⟨fun z => absurd z (by decide), fun _ => ?_⟩
  refine ⟨fun z => absurd z (by decide), fun _ => ?_⟩
  refine ⟨fun z => absurd z (by decide), fun _ => ?_⟩
  refine ⟨fun z => absurd z (by decide), fun _ => ?_⟩
  refine ⟨fun z => absurd z (by decide), fun _ => ?_⟩
  refine ⟨fun z => absurd z (by decide), fun _ => ?_⟩
  refine ⟨fun z => absurd z (by decide), fun _ => ?_⟩
  refine ⟨fun z => absurd z (by decide), fun _ => ?_⟩
  refine ⟨fun z => absurd z (by decide), fun _ => ?_⟩
  refine ⟨fun z => absurd z (by decide), fun _ => ?_⟩
  refine ⟨fun z => absurd z (by decide), fun _ => ?_⟩
  refine ⟨fun z => absurd z (by decide), fun _ => ?_⟩
  refine ⟨fun z => absurd z (by decide), fun _ => ?_⟩
  refine ⟨fun z => absurd z (by decide), fun _ => ?_⟩
  refine ⟨fun z => absurd z (by decide), fun _ => ?_⟩
  refine ⟨fun z => absurd z (by decide), fun _ => ?_⟩
  refine ⟨fun z => absurd z (by decide), fun _ => ?_⟩
  refine ⟨fun z => absurd z (by decide), fun _ => ?_⟩
  refine ⟨fun z => absurd z (by decide), fun _ => ?_⟩
  refine ⟨fun z => absurd z (by decide), fun _ => ?_⟩
  refine ⟨fun z => absurd z (by decide), fun _ => ?_⟩
  refine ⟨fun z => absurd z (by decide), fun _ => ?_⟩
  refine ⟨fun z => absurd z (by decide), fun _ => ?_⟩
  refine ⟨fun z => absurd z (by decide), fun _ => ?_⟩
  refine ⟨fun z => absurd z (by decide), fun _ => ?_⟩
  refine ⟨fun z => absurd z (by decide), fun _ => ?_⟩
  refine ⟨fun z => absurd z (by decide), fun _ => ?_⟩
  refine ⟨fun z => absurd z (by decide), fun _ => ?_⟩
  refine ⟨fun z => absurd z (by decide), fun _ => ?_⟩
  refine ⟨fun z => absurd z (by decide), fun _ => ?_⟩
  refine ⟨fun z => absurd z (by decide), fun _ => ?_⟩
  refine ⟨fun z => absurd z (by decide), fun _ => ?_⟩
  refine ⟨fun z => absurd z (by decide), fun _ => ?_⟩
  refine ⟨fun z => absurd z (by decide), fun _ => ?_⟩
  refine ⟨fun z => absurd z (by decide), fun _ => ?_⟩
  refine ⟨fun z => absurd z (by decide), fun _ => ?_⟩
  refine ⟨fun z => absurd z (by decide), fun _ => ?_⟩
  refine ⟨fun z => absurd z (by decide), fun _ => ?_⟩
  refine ⟨fun z => absurd z (by decide), fun _ => ?_⟩
  refine ⟨fun z => absurd z (by decide), fun _ => ?_⟩
  refine ⟨fun z => absurd z (by decide), fun _ => ?_⟩
  refine ⟨fun z => absurd z (by decide), fun _ => ?_⟩
  refine ⟨fun z => absurd z (by decide), fun _ => ?_⟩
  refine ⟨fun z => absurd z (by decide), fun _ => ?_⟩
  refine ⟨fun z => absurd z (by decide), fun _ => ?_⟩
  refine ⟨fun z => absurd z (by decide), fun _ => ?_⟩
  refine ⟨fun z => absurd z (by decide), fun _ => ?_⟩
  refine ⟨fun z => absurd z (by decide), fun _ => ?_⟩
  refine ⟨fun z => absurd z (by decide), fun _ => ?_⟩
  refine ⟨fun z => absurd z (by decide), fun _ => ?_⟩
  refine ⟨fun z => absurd z (by decide), fun _ => ?_⟩
  refine ⟨fun z => absurd z (by decide), fun _ => ?_⟩
  refine ⟨fun z => absurd z (by decide), fun _ => ?_⟩
  refine ⟨fun z => absurd z (by decide), fun _ => ?_⟩
  refine ⟨fun z => absurd z (by decide), fun _ => ?_⟩
  refine ⟨fun z => absurd z (by decide), fun _ => ?_⟩
  refine ⟨fun z => absurd z (by decide), fun _ => ?_⟩
  refine ⟨fun z => absurd z (by decide), fun _ => ?_⟩
  refine ⟨fun z => absurd z (by decide), fun _ => ?_⟩
  refine ⟨fun z => absurd z (by decide), fun _ => ?_⟩
  refine ⟨fun z => absurd z (by decide), fun _ => ?_⟩
  refine ⟨fun z => absurd z (by decide), fun _ => ?_⟩
  refine ⟨fun z => absurd z (by decide), fun _ => ?_⟩
  refine ⟨fun z => absurd z (by decide), fun _ => ?_⟩
  refine ⟨fun z => absurd z (by decide), fun _ => ?_⟩
  refine ⟨fun z => absurd z (by decide), fun _ => ?_⟩
  refine ⟨fun z => absurd z (by decide), fun _ => ?_⟩
  refine ⟨fun z => absurd z (by decide), fun _ => ?_⟩
  refine ⟨fun z => absurd z (by decide), fun _ => ?_⟩
  refine ⟨fun z => absurd z (by decide), fun _ => ?_⟩
  refine ⟨fun z => absurd z (by decide), fun _ => ?_⟩
  refine ⟨fun z => absurd z (by decide), fun _ => ?_⟩
  refine ⟨fun z => absurd z (by decide), fun _ => ?_⟩
  refine ⟨fun z => absurd z (by decide), fun _ => ?_⟩
  refine ⟨fun z => absurd z (by decide), fun _ => ?_⟩
  refine ⟨fun z => absurd z (by decide), fun _ => ?_⟩
  refine ⟨fun z => absurd z (by decide), fun _ => ?_⟩
  refine ⟨fun z => absurd z (by decide), fun _ => ?_⟩
  refine ⟨fun z => absurd z (by decide), fun _ => ?_⟩
  refine ⟨fun z => absurd z (by decide), fun _ => ?_⟩
  refine ⟨fun z => absurd z (by decide), fun _ => ?_⟩
  refine ⟨fun z => absurd z (by decide), fun _ => ?_⟩
  refine ⟨fun z => absurd z (by decide), fun _ => ?_⟩
  refine ⟨fun z => absurd z (by decide), fun _ => ?_⟩
  refine ⟨fun z => absurd z (by decide), fun _ => ?_⟩
  refine ⟨fun z => absurd z (by decide), fun _ => ?_⟩
  refine ⟨fun z => absurd z (by decide), fun _ => ?_⟩
  refine ⟨fun z => absurd z (by decide), fun _ => ?_⟩
  refine ⟨fun z => absurd z (by decide), fun _ => ?_⟩
  refine ⟨fun z => absurd z (by decide), fun _ => ?_⟩
  refine ⟨fun z => absurd z (by decide), fun _ => ?_⟩
  refine ⟨fun z => absurd z (by decide), fun _ => ?_⟩
  refine ⟨fun z => absurd z (by decide), fun _ => ?_⟩
  refine ⟨fun z => absurd z (by decide), fun _ => ?_⟩
  refine ⟨fun z => absurd z (by decide), fun _ => ?_⟩
  refine ⟨fun z => absurd z (by decide), fun _ => ?_⟩
  refine ⟨fun z => absurd z (by decide), fun _ => ?_⟩
  refine ⟨fun z => absurd z (by decide), fun _ => ?_⟩
  refine ⟨fun z => absurd z (by decide), fun _ => ?_⟩
  refine ⟨fun z => absurd z (by decide), fun _ => ?_⟩
  refine ⟨fun z => absurd z (by decide), fun _ => ?_⟩
  refine ⟨fun z => absurd z (by decide), fun _ => ?_⟩
  refine ⟨fun z => absurd z (by decide), fun _ => ?_⟩
  refine ⟨fun z => absurd z (by decide), fun _ => ?_⟩
  refine ⟨fun z => absurd z (by decide), fun _ => ?_⟩
  refine ⟨fun _ => ?_, fun z => absurd rfl z⟩
  exact ⟨by decide, h.k7, by decide, 0, 0, Nat.zero_le _, Nat.zero_le _, c_61 (hag.2.2.2.2.2.1 rfl) h hx (fun S' α' y n1 n2 => f_47_697 hE ⟨trivial, hQ1 S' α' y n1 n2⟩)⟩
theorem c_85_110 {a t : Nat} (hsp : ox_mono lw_sp) (hK : K < 2 ^ 31) (h : cE S x α C nc e q st) (hx : xEs1 C nc K e st) (htk : tkW 110 a = some t) (hl : t ≤ st.length) (hg : st.length - t + gvW 110 a ≤ 10) (hag : agW (C e.c).1 110 a) (hb : 110 = 122 → e.b.length < 4) (hb2 : 110 = 87 → e.b ≠ []) (hm : 2 ≤ mr) (hs : 20 ≤ sr) (hQ : ∀ S' α' y, cN x S S' → cX S' x α' C nc e q st (xIns C e q 110 a st) y → Q (some (.inl y)) S') : c_47_106 (ox_M lw_sp (d + 15)) (x + 11) (x + 28 + 5 * e.t.length) (nI 110) (nI a) S mr sr Q := by
  have hE : ox_mono (ox_M lw_sp (d + 15)) := ox_M_mono hsp _
  have et : t = 0 := (Option.some.inj (show some 0 = some t from htk)).symm
  have hg1 : st.length - t + 0 ≤ 10 := hg
  have s10 := hx.2.2.1
  have hQ1 : ∀ S' α' y, cN x S S' → cX S' x α' C nc e q st (xGo e (q + a) st) y → Q (some (.inl y)) S' := hQ
  refine f_47_106 hE ?_
  unfold q_47_106
  rw [nI_toInt (show 110 < 2 ^ 31 by decide)]
  refine ⟨fun z => absurd z (by decide), fun _ => ?_⟩
  refine ⟨fun z => absurd z (by decide), fun _ => ?_⟩
  refine ⟨fun z => absurd z (by decide), fun _ => ?_⟩
  refine ⟨fun z => absurd z (by decide), fun _ => ?_⟩
  refine ⟨fun z => absurd z (by decide), fun _ => ?_⟩
  refine ⟨fun z => absurd z (by decide), fun _ => ?_⟩
  refine ⟨fun z => absurd z (by decide), fun _ => ?_⟩
  refine ⟨fun z => absurd z (by decide), fun _ => ?_⟩
  refine ⟨fun z => absurd z (by decide), fun _ => ?_⟩
  refine ⟨fun z => absurd z (by decide), fun _ => ?_⟩
  refine ⟨fun z => absurd z (by decide), fun _ => ?_⟩
  refine ⟨fun z => absurd z (by decide), fun _ => ?_⟩
  refine ⟨fun z => absurd z (by decide), fun _ => ?_⟩
  refine ⟨fun z => absurd z (by decide), fun _ => ?_⟩
  refine ⟨fun z => absurd z (by decide), fun _ => ?_⟩
  refine ⟨fun z => absurd z (by decide), fun _ => ?_⟩
  refine ⟨fun z => absurd z (by decide), fun _ => ?_⟩
  refine ⟨fun z => absurd z (by decide), fun _ => ?_⟩
  refine ⟨fun z => absurd z (by decide), fun _ => ?_⟩
  refine ⟨fun z => absurd z (by decide), fun _ => ?_⟩
  refine ⟨fun z => absurd z (by decide), fun _ => ?_⟩
  refine ⟨fun z => absurd z (by decide), fun _ => ?_⟩
  refine ⟨fun z => absurd z (by decide), fun _ => ?_⟩
  refine ⟨fun z => absurd z (by decide), fun _ => ?_⟩
  refine ⟨fun z => absurd z (by decide), fun _ => ?_⟩
  refine ⟨fun z => absurd z (by decide), fun _ => ?_⟩
  refine ⟨fun z => absurd z (by decide), fun _ => ?_⟩
  refine ⟨fun z => absurd z (by decide), fun _ => ?_⟩
  refine ⟨fun z => absurd z (by decide), fun _ => ?_⟩
  refine ⟨fun z => absurd z (by decide), fun _ => ?_⟩
  refine ⟨fun z => absurd z (by decide), fun _ => ?_⟩
  refine ⟨fun z => absurd z (by decide), fun _ => ?_⟩
  refine ⟨fun z => absurd z (by decide), fun _ => ?_⟩
  refine ⟨fun z => absurd z (by decide), fun _ => ?_⟩
  refine ⟨fun z => absurd z (by decide), fun _ => ?_⟩
  refine ⟨fun z => absurd z (by decide), fun _ => ?_⟩
  refine ⟨fun z => absurd z (by decide), fun _ => ?_⟩
  refine ⟨fun z => absurd z (by decide), fun _ => ?_⟩
  refine ⟨fun z => absurd z (by decide), fun _ => ?_⟩
  refine ⟨fun z => absurd z (by decide), fun _ => ?_⟩
  refine ⟨fun z => absurd z (by decide), fun _ => ?_⟩
  refine ⟨fun z => absurd z (by decide), fun _ => ?_⟩
  refine ⟨fun z => absurd z (by decide), fun _ => ?_⟩
  refine ⟨fun z => absurd z (by decide), fun _ => ?_⟩
  refine ⟨fun z => absurd z (by decide), fun _ => ?_⟩
  refine ⟨fun z => absurd z (by decide), fun _ => ?_⟩
  refine ⟨fun z => absurd z (by decide), fun _ => ?_⟩
  refine ⟨fun z => absurd z (by decide), fun _ => ?_⟩
  refine ⟨fun z => absurd z (by decide), fun _ => ?_⟩
  refine ⟨fun z => absurd z (by decide), fun _ => ?_⟩
  refine ⟨fun z => absurd z (by decide), fun _ => ?_⟩
  refine ⟨fun z => absurd z (by decide), fun _ => ?_⟩
  refine ⟨fun z => absurd z (by decide), fun _ => ?_⟩
  refine ⟨fun z => absurd z (by decide), fun _ => ?_⟩
  refine ⟨fun z => absurd z (by decide), fun _ => ?_⟩
  refine ⟨fun z => absurd z (by decide), fun _ => ?_⟩
  refine ⟨fun z => absurd z (by decide), fun _ => ?_⟩
  refine ⟨fun z => absurd z (by decide), fun _ => ?_⟩
  refine ⟨fun z => absurd z (by decide), fun _ => ?_⟩
  refine ⟨fun z => absurd z (by decide), fun _ => ?_⟩
  refine ⟨fun z => absurd z (by decide), fun _ => ?_⟩
  refine ⟨fun z => absurd z (by decide), fun _ => ?_⟩
  refine ⟨fun z => absurd z (by decide), fun _ => ?_⟩
  refine ⟨fun z => absurd z (by decide), fun _ => ?_⟩
  refine ⟨fun z => absurd z (by decide), fun _ => ?_⟩
  refine ⟨fun z => absurd z (by decide), fun _ => ?_⟩
  refine ⟨fun z => absurd z (by decide), fun _ => ?_⟩
  refine ⟨fun z => absurd z (by decide), fun _ => ?_⟩
  refine ⟨fun z => absurd z (by decide), fun _ => ?_⟩
  refine ⟨fun z => absurd z (by decide), fun _ => ?_⟩
  refine ⟨fun z => absurd z (by decide), fun _ => ?_⟩
  refine ⟨fun z => absurd z (by decide), fun _ => ?_⟩
  refine ⟨fun z => absurd z (by decide), fun _ => ?_⟩
  refine ⟨fun z => absurd z (by decide), fun _ => ?_⟩
  refine ⟨fun z => absurd z (by decide), fun _ => ?_⟩
  refine ⟨fun z => absurd z (by decide), fun _ => ?_⟩
  refine ⟨fun z => absurd z (by decide), fun _ => ?_⟩
  refine ⟨fun z => absurd z (by decide), fun _ => ?_⟩
  refine ⟨fun z => absurd z (by decide), fun _ => ?_⟩
  refine ⟨fun z => absurd z (by decide), fun _ => ?_⟩
  refine ⟨fun z => absurd z (by decide), fun _ => ?_⟩
  refine ⟨fun z => absurd z (by decide), fun _ => ?_⟩
  refine ⟨fun z => absurd z (by decide), fun _ => ?_⟩
  refine ⟨fun z => absurd z (by decide), fun _ => ?_⟩
  refine ⟨fun z => absurd z (by decide), fun _ => ?_⟩
  refine ⟨fun z => absurd z (by decide), fun _ => ?_⟩
  refine ⟨fun z => absurd z (by decide), fun _ => ?_⟩
  refine ⟨fun z => absurd z (by decide), fun _ => ?_⟩
  refine ⟨fun z => absurd z (by decide), fun _ => ?_⟩
  refine ⟨fun z => absurd z (by decide), fun _ => ?_⟩
  refine ⟨fun z => absurd z (by decide), fun _ => ?_⟩
  refine ⟨fun z => absurd z (by decide), fun _ => ?_⟩
  refine ⟨fun z => absurd z (by decide), fun _ => ?_⟩
  refine ⟨fun z => absurd z (by decide), fun _ => ?_⟩
  refine ⟨fun z => absurd z (by decide), fun _ => ?_⟩
  refine ⟨fun z => absurd z (by decide), fun _ => ?_⟩
  refine ⟨fun z => absurd z (by decide), fun _ => ?_⟩
  refine ⟨fun z => absurd z (by decide), fun _ => ?_⟩
  refine ⟨fun z => absurd z (by decide), fun _ => ?_⟩
  refine ⟨fun z => absurd z (by decide), fun _ => ?_⟩
  refine ⟨fun z => absurd z (by decide), fun _ => ?_⟩
  refine ⟨fun z => absurd z (by decide), fun _ => ?_⟩
  refine ⟨fun z => absurd z (by decide), fun _ => ?_⟩
  refine ⟨fun z => absurd z (by decide), fun _ => ?_⟩
  refine ⟨fun z => absurd z (by decide), fun _ => ?_⟩
  refine ⟨fun z => absurd z (by decide), fun _ => ?_⟩
  refine ⟨fun z => absurd z (by decide), fun _ => ?_⟩
  refine ⟨fun z => absurd z (by decide), fun _ => ?_⟩
  refine ⟨fun z => absurd z (by decide), fun _ => ?_⟩
  refine ⟨fun _ => ?_, fun z => absurd rfl z⟩
  exact f_47_721 hE ⟨by decide, h.k7, by decide, 0, 0, Nat.zero_le _, Nat.zero_le _, c_52_110 hsp h hx (fun S' n1 n2 => f_47_728 hE ⟨trivial, hQ1 S' α (-1) n1 (cX_go n2)⟩)⟩
theorem c_85_113 {a t : Nat} (hsp : ox_mono lw_sp) (hK : K < 2 ^ 31) (h : cE S x α C nc e q st) (hx : xEs1 C nc K e st) (htk : tkW 113 a = some t) (hl : t ≤ st.length) (hg : st.length - t + gvW 113 a ≤ 10) (hag : agW (C e.c).1 113 a) (hb : 113 = 122 → e.b.length < 4) (hb2 : 113 = 87 → e.b ≠ []) (hm : 2 ≤ mr) (hs : 20 ≤ sr) (hQ : ∀ S' α' y, cN x S S' → cX S' x α' C nc e q st (xIns C e q 113 a st) y → Q (some (.inl y)) S') : c_47_106 (ox_M lw_sp (d + 15)) (x + 11) (x + 28 + 5 * e.t.length) (nI 113) (nI a) S mr sr Q := by
  have hE : ox_mono (ox_M lw_sp (d + 15)) := ox_M_mono hsp _
  have et : t = 0 := (Option.some.inj (show some 0 = some t from htk)).symm
  have hg1 : st.length - t + 0 ≤ 10 := hg
  have s10 := hx.2.2.1
  have hQ1 : ∀ S' α' y, cN x S S' → cX S' x α' C nc e q st (xGo e a st) y → Q (some (.inl y)) S' := hQ
  refine f_47_106 hE ?_
  unfold q_47_106
  rw [nI_toInt (show 113 < 2 ^ 31 by decide)]
  refine ⟨fun z => absurd z (by decide), fun _ => ?_⟩
  refine ⟨fun z => absurd z (by decide), fun _ => ?_⟩
  refine ⟨fun z => absurd z (by decide), fun _ => ?_⟩
  refine ⟨fun z => absurd z (by decide), fun _ => ?_⟩
  refine ⟨fun z => absurd z (by decide), fun _ => ?_⟩
  refine ⟨fun z => absurd z (by decide), fun _ => ?_⟩
  refine ⟨fun z => absurd z (by decide), fun _ => ?_⟩
  refine ⟨fun z => absurd z (by decide), fun _ => ?_⟩
  refine ⟨fun z => absurd z (by decide), fun _ => ?_⟩
  refine ⟨fun z => absurd z (by decide), fun _ => ?_⟩
  refine ⟨fun z => absurd z (by decide), fun _ => ?_⟩
  refine ⟨fun z => absurd z (by decide), fun _ => ?_⟩
  refine ⟨fun z => absurd z (by decide), fun _ => ?_⟩
  refine ⟨fun z => absurd z (by decide), fun _ => ?_⟩
  refine ⟨fun z => absurd z (by decide), fun _ => ?_⟩
  refine ⟨fun z => absurd z (by decide), fun _ => ?_⟩
  refine ⟨fun z => absurd z (by decide), fun _ => ?_⟩
  refine ⟨fun z => absurd z (by decide), fun _ => ?_⟩
  refine ⟨fun z => absurd z (by decide), fun _ => ?_⟩
  refine ⟨fun z => absurd z (by decide), fun _ => ?_⟩
  refine ⟨fun z => absurd z (by decide), fun _ => ?_⟩
  refine ⟨fun z => absurd z (by decide), fun _ => ?_⟩
  refine ⟨fun z => absurd z (by decide), fun _ => ?_⟩
  refine ⟨fun z => absurd z (by decide), fun _ => ?_⟩
  refine ⟨fun z => absurd z (by decide), fun _ => ?_⟩
  refine ⟨fun z => absurd z (by decide), fun _ => ?_⟩
  refine ⟨fun z => absurd z (by decide), fun _ => ?_⟩
  refine ⟨fun z => absurd z (by decide), fun _ => ?_⟩
  refine ⟨fun z => absurd z (by decide), fun _ => ?_⟩
  refine ⟨fun z => absurd z (by decide), fun _ => ?_⟩
  refine ⟨fun z => absurd z (by decide), fun _ => ?_⟩
  refine ⟨fun z => absurd z (by decide), fun _ => ?_⟩
  refine ⟨fun z => absurd z (by decide), fun _ => ?_⟩
  refine ⟨fun z => absurd z (by decide), fun _ => ?_⟩
  refine ⟨fun z => absurd z (by decide), fun _ => ?_⟩
  refine ⟨fun z => absurd z (by decide), fun _ => ?_⟩
  refine ⟨fun z => absurd z (by decide), fun _ => ?_⟩
  refine ⟨fun z => absurd z (by decide), fun _ => ?_⟩
  refine ⟨fun z => absurd z (by decide), fun _ => ?_⟩
  refine ⟨fun z => absurd z (by decide), fun _ => ?_⟩
  refine ⟨fun z => absurd z (by decide), fun _ => ?_⟩
  refine ⟨fun z => absurd z (by decide), fun _ => ?_⟩
  refine ⟨fun z => absurd z (by decide), fun _ => ?_⟩
  refine ⟨fun z => absurd z (by decide), fun _ => ?_⟩
  refine ⟨fun z => absurd z (by decide), fun _ => ?_⟩
  refine ⟨fun z => absurd z (by decide), fun _ => ?_⟩
  refine ⟨fun z => absurd z (by decide), fun _ => ?_⟩
  refine ⟨fun z => absurd z (by decide), fun _ => ?_⟩
  refine ⟨fun z => absurd z (by decide), fun _ => ?_⟩
  refine ⟨fun z => absurd z (by decide), fun _ => ?_⟩
  refine ⟨fun z => absurd z (by decide), fun _ => ?_⟩
  refine ⟨fun z => absurd z (by decide), fun _ => ?_⟩
  refine ⟨fun z => absurd z (by decide), fun _ => ?_⟩
  refine ⟨fun z => absurd z (by decide), fun _ => ?_⟩
  refine ⟨fun z => absurd z (by decide), fun _ => ?_⟩
  refine ⟨fun z => absurd z (by decide), fun _ => ?_⟩
  refine ⟨fun z => absurd z (by decide), fun _ => ?_⟩
  refine ⟨fun z => absurd z (by decide), fun _ => ?_⟩
  refine ⟨fun z => absurd z (by decide), fun _ => ?_⟩
  refine ⟨fun z => absurd z (by decide), fun _ => ?_⟩
  refine ⟨fun z => absurd z (by decide), fun _ => ?_⟩
  refine ⟨fun z => absurd z (by decide), fun _ => ?_⟩
  refine ⟨fun z => absurd z (by decide), fun _ => ?_⟩
  refine ⟨fun z => absurd z (by decide), fun _ => ?_⟩
  refine ⟨fun z => absurd z (by decide), fun _ => ?_⟩
  refine ⟨fun z => absurd z (by decide), fun _ => ?_⟩
  refine ⟨fun z => absurd z (by decide), fun _ => ?_⟩
  refine ⟨fun z => absurd z (by decide), fun _ => ?_⟩
  refine ⟨fun z => absurd z (by decide), fun _ => ?_⟩
  refine ⟨fun z => absurd z (by decide), fun _ => ?_⟩
  refine ⟨fun z => absurd z (by decide), fun _ => ?_⟩
  refine ⟨fun z => absurd z (by decide), fun _ => ?_⟩
  refine ⟨fun z => absurd z (by decide), fun _ => ?_⟩
  refine ⟨fun z => absurd z (by decide), fun _ => ?_⟩
  refine ⟨fun z => absurd z (by decide), fun _ => ?_⟩
  refine ⟨fun z => absurd z (by decide), fun _ => ?_⟩
  refine ⟨fun z => absurd z (by decide), fun _ => ?_⟩
  refine ⟨fun z => absurd z (by decide), fun _ => ?_⟩
  refine ⟨fun z => absurd z (by decide), fun _ => ?_⟩
  refine ⟨fun z => absurd z (by decide), fun _ => ?_⟩
  refine ⟨fun z => absurd z (by decide), fun _ => ?_⟩
  refine ⟨fun z => absurd z (by decide), fun _ => ?_⟩
  refine ⟨fun z => absurd z (by decide), fun _ => ?_⟩
  refine ⟨fun z => absurd z (by decide), fun _ => ?_⟩
  refine ⟨fun z => absurd z (by decide), fun _ => ?_⟩
  refine ⟨fun z => absurd z (by decide), fun _ => ?_⟩
  refine ⟨fun z => absurd z (by decide), fun _ => ?_⟩
  refine ⟨fun z => absurd z (by decide), fun _ => ?_⟩
  refine ⟨fun z => absurd z (by decide), fun _ => ?_⟩
  refine ⟨fun z => absurd z (by decide), fun _ => ?_⟩
  refine ⟨fun z => absurd z (by decide), fun _ => ?_⟩
  refine ⟨fun z => absurd z (by decide), fun _ => ?_⟩
  refine ⟨fun z => absurd z (by decide), fun _ => ?_⟩
  refine ⟨fun z => absurd z (by decide), fun _ => ?_⟩
  refine ⟨fun z => absurd z (by decide), fun _ => ?_⟩
  refine ⟨fun z => absurd z (by decide), fun _ => ?_⟩
  refine ⟨fun z => absurd z (by decide), fun _ => ?_⟩
  refine ⟨fun z => absurd z (by decide), fun _ => ?_⟩
  refine ⟨fun z => absurd z (by decide), fun _ => ?_⟩
  refine ⟨fun z => absurd z (by decide), fun _ => ?_⟩
  refine ⟨fun z => absurd z (by decide), fun _ => ?_⟩
  refine ⟨fun z => absurd z (by decide), fun _ => ?_⟩
  refine ⟨fun z => absurd z (by decide), fun _ => ?_⟩
  refine ⟨fun z => absurd z (by decide), fun _ => ?_⟩
  refine ⟨fun z => absurd z (by decide), fun _ => ?_⟩
  refine ⟨fun z => absurd z (by decide), fun _ => ?_⟩
  refine ⟨fun z => absurd z (by decide), fun _ => ?_⟩
  refine ⟨fun z => absurd z (by decide), fun _ => ?_⟩
  refine ⟨fun z => absurd z (by decide), fun _ => ?_⟩
  refine ⟨fun z => absurd z (by decide), fun _ => ?_⟩
  refine ⟨fun z => absurd z (by decide), fun _ => ?_⟩
  refine ⟨fun z => absurd z (by decide), fun _ => ?_⟩
  refine ⟨fun _ => ?_, fun z => absurd rfl z⟩
  exact f_47_721 hE ⟨by decide, h.k7, by decide, 0, 0, Nat.zero_le _, Nat.zero_le _, c_52_113 hsp h hx (fun S' n1 n2 => f_47_728 hE ⟨trivial, hQ1 S' α (-1) n1 (cX_go n2)⟩)⟩
theorem c_85_114 {a t : Nat} (hsp : ox_mono lw_sp) (hK : K < 2 ^ 31) (h : cE S x α C nc e q st) (hx : xEs1 C nc K e st) (htk : tkW 114 a = some t) (hl : t ≤ st.length) (hg : st.length - t + gvW 114 a ≤ 10) (hag : agW (C e.c).1 114 a) (hb : 114 = 122 → e.b.length < 4) (hb2 : 114 = 87 → e.b ≠ []) (hm : 2 ≤ mr) (hs : 20 ≤ sr) (hQ : ∀ S' α' y, cN x S S' → cX S' x α' C nc e q st (xIns C e q 114 a st) y → Q (some (.inl y)) S') : c_47_106 (ox_M lw_sp (d + 15)) (x + 11) (x + 28 + 5 * e.t.length) (nI 114) (nI a) S mr sr Q := by
  have hE : ox_mono (ox_M lw_sp (d + 15)) := ox_M_mono hsp _
  have et : t = 1 := (Option.some.inj (show some 1 = some t from htk)).symm
  have hg1 : st.length - t + 0 ≤ 10 := hg
  have s10 := hx.2.2.1
  obtain ⟨v, r, rfl⟩ := ls1 (st := st) (by omega)
  simp only [List.length_cons] at hg1 hl s10
  have hQ1 : ∀ S' α' y, cN x S S' → cX S' x α' C nc e q (v :: r) (xGo e (if xFalse e.H v = true then a else q) r) y → Q (some (.inl y)) S' := hQ
  refine f_47_106 hE ?_
  unfold q_47_106
  rw [nI_toInt (show 114 < 2 ^ 31 by decide)]
  refine ⟨fun z => absurd z (by decide), fun _ => ?_⟩
  refine ⟨fun z => absurd z (by decide), fun _ => ?_⟩
  refine ⟨fun z => absurd z (by decide), fun _ => ?_⟩
  refine ⟨fun z => absurd z (by decide), fun _ => ?_⟩
  refine ⟨fun z => absurd z (by decide), fun _ => ?_⟩
  refine ⟨fun z => absurd z (by decide), fun _ => ?_⟩
  refine ⟨fun z => absurd z (by decide), fun _ => ?_⟩
  refine ⟨fun z => absurd z (by decide), fun _ => ?_⟩
  refine ⟨fun z => absurd z (by decide), fun _ => ?_⟩
  refine ⟨fun z => absurd z (by decide), fun _ => ?_⟩
  refine ⟨fun z => absurd z (by decide), fun _ => ?_⟩
  refine ⟨fun z => absurd z (by decide), fun _ => ?_⟩
  refine ⟨fun z => absurd z (by decide), fun _ => ?_⟩
  refine ⟨fun z => absurd z (by decide), fun _ => ?_⟩
  refine ⟨fun z => absurd z (by decide), fun _ => ?_⟩
  refine ⟨fun z => absurd z (by decide), fun _ => ?_⟩
  refine ⟨fun z => absurd z (by decide), fun _ => ?_⟩
  refine ⟨fun z => absurd z (by decide), fun _ => ?_⟩
  refine ⟨fun z => absurd z (by decide), fun _ => ?_⟩
  refine ⟨fun z => absurd z (by decide), fun _ => ?_⟩
  refine ⟨fun z => absurd z (by decide), fun _ => ?_⟩
  refine ⟨fun z => absurd z (by decide), fun _ => ?_⟩
  refine ⟨fun z => absurd z (by decide), fun _ => ?_⟩
  refine ⟨fun z => absurd z (by decide), fun _ => ?_⟩
  refine ⟨fun z => absurd z (by decide), fun _ => ?_⟩
  refine ⟨fun z => absurd z (by decide), fun _ => ?_⟩
  refine ⟨fun z => absurd z (by decide), fun _ => ?_⟩
  refine ⟨fun z => absurd z (by decide), fun _ => ?_⟩
  refine ⟨fun z => absurd z (by decide), fun _ => ?_⟩
  refine ⟨fun z => absurd z (by decide), fun _ => ?_⟩
  refine ⟨fun z => absurd z (by decide), fun _ => ?_⟩
  refine ⟨fun z => absurd z (by decide), fun _ => ?_⟩
  refine ⟨fun z => absurd z (by decide), fun _ => ?_⟩
  refine ⟨fun z => absurd z (by decide), fun _ => ?_⟩
  refine ⟨fun z => absurd z (by decide), fun _ => ?_⟩
  refine ⟨fun z => absurd z (by decide), fun _ => ?_⟩
  refine ⟨fun z => absurd z (by decide), fun _ => ?_⟩
  refine ⟨fun z => absurd z (by decide), fun _ => ?_⟩
  refine ⟨fun z => absurd z (by decide), fun _ => ?_⟩
  refine ⟨fun z => absurd z (by decide), fun _ => ?_⟩
  refine ⟨fun z => absurd z (by decide), fun _ => ?_⟩
  refine ⟨fun z => absurd z (by decide), fun _ => ?_⟩
  refine ⟨fun z => absurd z (by decide), fun _ => ?_⟩
  refine ⟨fun z => absurd z (by decide), fun _ => ?_⟩
  refine ⟨fun z => absurd z (by decide), fun _ => ?_⟩
  refine ⟨fun z => absurd z (by decide), fun _ => ?_⟩
  refine ⟨fun z => absurd z (by decide), fun _ => ?_⟩
  refine ⟨fun z => absurd z (by decide), fun _ => ?_⟩
  refine ⟨fun z => absurd z (by decide), fun _ => ?_⟩
  refine ⟨fun z => absurd z (by decide), fun _ => ?_⟩
  refine ⟨fun z => absurd z (by decide), fun _ => ?_⟩
  refine ⟨fun z => absurd z (by decide), fun _ => ?_⟩
  refine ⟨fun z => absurd z (by decide), fun _ => ?_⟩
  refine ⟨fun z => absurd z (by decide), fun _ => ?_⟩
  refine ⟨fun z => absurd z (by decide), fun _ => ?_⟩
  refine ⟨fun z => absurd z (by decide), fun _ => ?_⟩
  refine ⟨fun z => absurd z (by decide), fun _ => ?_⟩
  refine ⟨fun z => absurd z (by decide), fun _ => ?_⟩
  refine ⟨fun z => absurd z (by decide), fun _ => ?_⟩
  refine ⟨fun z => absurd z (by decide), fun _ => ?_⟩
  refine ⟨fun z => absurd z (by decide), fun _ => ?_⟩
  refine ⟨fun z => absurd z (by decide), fun _ => ?_⟩
  refine ⟨fun z => absurd z (by decide), fun _ => ?_⟩
  refine ⟨fun z => absurd z (by decide), fun _ => ?_⟩
  refine ⟨fun z => absurd z (by decide), fun _ => ?_⟩
  refine ⟨fun z => absurd z (by decide), fun _ => ?_⟩
  refine ⟨fun z => absurd z (by decide), fun _ => ?_⟩
  refine ⟨fun z => absurd z (by decide), fun _ => ?_⟩
  refine ⟨fun z => absurd z (by decide), fun _ => ?_⟩
  refine ⟨fun z => absurd z (by decide), fun _ => ?_⟩
  refine ⟨fun z => absurd z (by decide), fun _ => ?_⟩
  refine ⟨fun z => absurd z (by decide), fun _ => ?_⟩
  refine ⟨fun z => absurd z (by decide), fun _ => ?_⟩
  refine ⟨fun z => absurd z (by decide), fun _ => ?_⟩
  refine ⟨fun z => absurd z (by decide), fun _ => ?_⟩
  refine ⟨fun z => absurd z (by decide), fun _ => ?_⟩
  refine ⟨fun z => absurd z (by decide), fun _ => ?_⟩
  refine ⟨fun z => absurd z (by decide), fun _ => ?_⟩
  refine ⟨fun z => absurd z (by decide), fun _ => ?_⟩
  refine ⟨fun z => absurd z (by decide), fun _ => ?_⟩
  refine ⟨fun z => absurd z (by decide), fun _ => ?_⟩
  refine ⟨fun z => absurd z (by decide), fun _ => ?_⟩
  refine ⟨fun z => absurd z (by decide), fun _ => ?_⟩
  refine ⟨fun z => absurd z (by decide), fun _ => ?_⟩
  refine ⟨fun z => absurd z (by decide), fun _ => ?_⟩
  refine ⟨fun z => absurd z (by decide), fun _ => ?_⟩
  refine ⟨fun z => absurd z (by decide), fun _ => ?_⟩
  refine ⟨fun z => absurd z (by decide), fun _ => ?_⟩
  refine ⟨fun z => absurd z (by decide), fun _ => ?_⟩
  refine ⟨fun z => absurd z (by decide), fun _ => ?_⟩
  refine ⟨fun z => absurd z (by decide), fun _ => ?_⟩
  refine ⟨fun z => absurd z (by decide), fun _ => ?_⟩
  refine ⟨fun z => absurd z (by decide), fun _ => ?_⟩
  refine ⟨fun z => absurd z (by decide), fun _ => ?_⟩
  refine ⟨fun z => absurd z (by decide), fun _ => ?_⟩
  refine ⟨fun z => absurd z (by decide), fun _ => ?_⟩
  refine ⟨fun z => absurd z (by decide), fun _ => ?_⟩
  refine ⟨fun z => absurd z (by decide), fun _ => ?_⟩
  refine ⟨fun z => absurd z (by decide), fun _ => ?_⟩
  refine ⟨fun z => absurd z (by decide), fun _ => ?_⟩
  refine ⟨fun z => absurd z (by decide), fun _ => ?_⟩
  refine ⟨fun z => absurd z (by decide), fun _ => ?_⟩
  refine ⟨fun z => absurd z (by decide), fun _ => ?_⟩
  refine ⟨fun z => absurd z (by decide), fun _ => ?_⟩
  refine ⟨fun z => absurd z (by decide), fun _ => ?_⟩
  refine ⟨fun z => absurd z (by decide), fun _ => ?_⟩
  refine ⟨fun z => absurd z (by decide), fun _ => ?_⟩
  refine ⟨fun z => absurd z (by decide), fun _ => ?_⟩
  refine ⟨fun z => absurd z (by decide), fun _ => ?_⟩
  refine ⟨fun z => absurd z (by decide), fun _ => ?_⟩
  refine ⟨fun z => absurd z (by decide), fun _ => ?_⟩
  refine ⟨fun z => absurd z (by decide), fun _ => ?_⟩
  refine ⟨fun z => absurd z (by decide), fun _ => ?_⟩
  refine ⟨fun _ => ?_, fun z => absurd rfl z⟩
  exact f_47_721 hE ⟨by decide, h.k7, by decide, 0, 0, Nat.zero_le _, Nat.zero_le _, c_52_114 hsp h hx (fun S' n1 n2 => f_47_728 hE ⟨trivial, hQ1 S' α (-1) n1 (cX_go n2)⟩)⟩
theorem c_85_115 {a t : Nat} (hsp : ox_mono lw_sp) (hK : K < 2 ^ 31) (h : cE S x α C nc e q st) (hx : xEs1 C nc K e st) (htk : tkW 115 a = some t) (hl : t ≤ st.length) (hg : st.length - t + gvW 115 a ≤ 10) (hag : agW (C e.c).1 115 a) (hb : 115 = 122 → e.b.length < 4) (hb2 : 115 = 87 → e.b ≠ []) (hm : 2 ≤ mr) (hs : 20 ≤ sr) (hQ : ∀ S' α' y, cN x S S' → cX S' x α' C nc e q st (xIns C e q 115 a st) y → Q (some (.inl y)) S') : c_47_106 (ox_M lw_sp (d + 15)) (x + 11) (x + 28 + 5 * e.t.length) (nI 115) (nI a) S mr sr Q := by
  have hE : ox_mono (ox_M lw_sp (d + 15)) := ox_M_mono hsp _
  have et : t = 1 := (Option.some.inj (show some 1 = some t from htk)).symm
  have hg1 : st.length - t + 0 ≤ 10 := hg
  have s10 := hx.2.2.1
  obtain ⟨v, r, rfl⟩ := ls1 (st := st) (by omega)
  simp only [List.length_cons] at hg1 hl s10
  have hQ1 : ∀ S' α' y, cN x S S' → cX S' x α' C nc e q (v :: r) (xGo e (if xFalse e.H v = true then q else a) r) y → Q (some (.inl y)) S' := hQ
  refine f_47_106 hE ?_
  unfold q_47_106
  rw [nI_toInt (show 115 < 2 ^ 31 by decide)]
  refine ⟨fun z => absurd z (by decide), fun _ => ?_⟩
  refine ⟨fun z => absurd z (by decide), fun _ => ?_⟩
  refine ⟨fun z => absurd z (by decide), fun _ => ?_⟩
  refine ⟨fun z => absurd z (by decide), fun _ => ?_⟩
  refine ⟨fun z => absurd z (by decide), fun _ => ?_⟩
  refine ⟨fun z => absurd z (by decide), fun _ => ?_⟩
  refine ⟨fun z => absurd z (by decide), fun _ => ?_⟩
  refine ⟨fun z => absurd z (by decide), fun _ => ?_⟩
  refine ⟨fun z => absurd z (by decide), fun _ => ?_⟩
  refine ⟨fun z => absurd z (by decide), fun _ => ?_⟩
  refine ⟨fun z => absurd z (by decide), fun _ => ?_⟩
  refine ⟨fun z => absurd z (by decide), fun _ => ?_⟩
  refine ⟨fun z => absurd z (by decide), fun _ => ?_⟩
  refine ⟨fun z => absurd z (by decide), fun _ => ?_⟩
  refine ⟨fun z => absurd z (by decide), fun _ => ?_⟩
  refine ⟨fun z => absurd z (by decide), fun _ => ?_⟩
  refine ⟨fun z => absurd z (by decide), fun _ => ?_⟩
  refine ⟨fun z => absurd z (by decide), fun _ => ?_⟩
  refine ⟨fun z => absurd z (by decide), fun _ => ?_⟩
  refine ⟨fun z => absurd z (by decide), fun _ => ?_⟩
  refine ⟨fun z => absurd z (by decide), fun _ => ?_⟩
  refine ⟨fun z => absurd z (by decide), fun _ => ?_⟩
  refine ⟨fun z => absurd z (by decide), fun _ => ?_⟩
  refine ⟨fun z => absurd z (by decide), fun _ => ?_⟩
  refine ⟨fun z => absurd z (by decide), fun _ => ?_⟩
  refine ⟨fun z => absurd z (by decide), fun _ => ?_⟩
  refine ⟨fun z => absurd z (by decide), fun _ => ?_⟩
  refine ⟨fun z => absurd z (by decide), fun _ => ?_⟩
  refine ⟨fun z => absurd z (by decide), fun _ => ?_⟩
  refine ⟨fun z => absurd z (by decide), fun _ => ?_⟩
  refine ⟨fun z => absurd z (by decide), fun _ => ?_⟩
  refine ⟨fun z => absurd z (by decide), fun _ => ?_⟩
  refine ⟨fun z => absurd z (by decide), fun _ => ?_⟩
  refine ⟨fun z => absurd z (by decide), fun _ => ?_⟩
  refine ⟨fun z => absurd z (by decide), fun _ => ?_⟩
  refine ⟨fun z => absurd z (by decide), fun _ => ?_⟩
  refine ⟨fun z => absurd z (by decide), fun _ => ?_⟩
  refine ⟨fun z => absurd z (by decide), fun _ => ?_⟩
  refine ⟨fun z => absurd z (by decide), fun _ => ?_⟩
  refine ⟨fun z => absurd z (by decide), fun _ => ?_⟩
  refine ⟨fun z => absurd z (by decide), fun _ => ?_⟩
  refine ⟨fun z => absurd z (by decide), fun _ => ?_⟩
  refine ⟨fun z => absurd z (by decide), fun _ => ?_⟩
  refine ⟨fun z => absurd z (by decide), fun _ => ?_⟩
  refine ⟨fun z => absurd z (by decide), fun _ => ?_⟩
  refine ⟨fun z => absurd z (by decide), fun _ => ?_⟩
  refine ⟨fun z => absurd z (by decide), fun _ => ?_⟩
  refine ⟨fun z => absurd z (by decide), fun _ => ?_⟩
  refine ⟨fun z => absurd z (by decide), fun _ => ?_⟩
  refine ⟨fun z => absurd z (by decide), fun _ => ?_⟩
  refine ⟨fun z => absurd z (by decide), fun _ => ?_⟩
  refine ⟨fun z => absurd z (by decide), fun _ => ?_⟩
  refine ⟨fun z => absurd z (by decide), fun _ => ?_⟩
  refine ⟨fun z => absurd z (by decide), fun _ => ?_⟩
  refine ⟨fun z => absurd z (by decide), fun _ => ?_⟩
  refine ⟨fun z => absurd z (by decide), fun _ => ?_⟩
  refine ⟨fun z => absurd z (by decide), fun _ => ?_⟩
  refine ⟨fun z => absurd z (by decide), fun _ => ?_⟩
  refine ⟨fun z => absurd z (by decide), fun _ => ?_⟩
  refine ⟨fun z => absurd z (by decide), fun _ => ?_⟩
  refine ⟨fun z => absurd z (by decide), fun _ => ?_⟩
  refine ⟨fun z => absurd z (by decide), fun _ => ?_⟩
  refine ⟨fun z => absurd z (by decide), fun _ => ?_⟩
  refine ⟨fun z => absurd z (by decide), fun _ => ?_⟩
  refine ⟨fun z => absurd z (by decide), fun _ => ?_⟩
  refine ⟨fun z => absurd z (by decide), fun _ => ?_⟩
  refine ⟨fun z => absurd z (by decide), fun _ => ?_⟩
  refine ⟨fun z => absurd z (by decide), fun _ => ?_⟩
  refine ⟨fun z => absurd z (by decide), fun _ => ?_⟩
  refine ⟨fun z => absurd z (by decide), fun _ => ?_⟩
  refine ⟨fun z => absurd z (by decide), fun _ => ?_⟩
  refine ⟨fun z => absurd z (by decide), fun _ => ?_⟩
  refine ⟨fun z => absurd z (by decide), fun _ => ?_⟩
  refine ⟨fun z => absurd z (by decide), fun _ => ?_⟩
  refine ⟨fun z => absurd z (by decide), fun _ => ?_⟩
  refine ⟨fun z => absurd z (by decide), fun _ => ?_⟩
  refine ⟨fun z => absurd z (by decide), fun _ => ?_⟩
  refine ⟨fun z => absurd z (by decide), fun _ => ?_⟩
  refine ⟨fun z => absurd z (by decide), fun _ => ?_⟩
  refine ⟨fun z => absurd z (by decide), fun _ => ?_⟩
  refine ⟨fun z => absurd z (by decide), fun _ => ?_⟩
  refine ⟨fun z => absurd z (by decide), fun _ => ?_⟩
  refine ⟨fun z => absurd z (by decide), fun _ => ?_⟩
  refine ⟨fun z => absurd z (by decide), fun _ => ?_⟩
  refine ⟨fun z => absurd z (by decide), fun _ => ?_⟩
  refine ⟨fun z => absurd z (by decide), fun _ => ?_⟩
  refine ⟨fun z => absurd z (by decide), fun _ => ?_⟩
  refine ⟨fun z => absurd z (by decide), fun _ => ?_⟩
  refine ⟨fun z => absurd z (by decide), fun _ => ?_⟩
  refine ⟨fun z => absurd z (by decide), fun _ => ?_⟩
  refine ⟨fun z => absurd z (by decide), fun _ => ?_⟩
  refine ⟨fun z => absurd z (by decide), fun _ => ?_⟩
  refine ⟨fun z => absurd z (by decide), fun _ => ?_⟩
  refine ⟨fun z => absurd z (by decide), fun _ => ?_⟩
  refine ⟨fun z => absurd z (by decide), fun _ => ?_⟩
  refine ⟨fun z => absurd z (by decide), fun _ => ?_⟩
  refine ⟨fun z => absurd z (by decide), fun _ => ?_⟩
  refine ⟨fun z => absurd z (by decide), fun _ => ?_⟩
  refine ⟨fun z => absurd z (by decide), fun _ => ?_⟩
  refine ⟨fun z => absurd z (by decide), fun _ => ?_⟩
  refine ⟨fun z => absurd z (by decide), fun _ => ?_⟩
  refine ⟨fun z => absurd z (by decide), fun _ => ?_⟩
  refine ⟨fun z => absurd z (by decide), fun _ => ?_⟩
  refine ⟨fun z => absurd z (by decide), fun _ => ?_⟩
  refine ⟨fun z => absurd z (by decide), fun _ => ?_⟩
  refine ⟨fun z => absurd z (by decide), fun _ => ?_⟩
  refine ⟨fun z => absurd z (by decide), fun _ => ?_⟩
  refine ⟨fun z => absurd z (by decide), fun _ => ?_⟩
  refine ⟨fun z => absurd z (by decide), fun _ => ?_⟩
  refine ⟨fun z => absurd z (by decide), fun _ => ?_⟩
  refine ⟨fun z => absurd z (by decide), fun _ => ?_⟩
  refine ⟨fun z => absurd z (by decide), fun _ => ?_⟩
  refine ⟨fun z => absurd z (by decide), fun _ => ?_⟩
  refine ⟨fun z => absurd z (by decide), fun _ => ?_⟩
  refine ⟨fun _ => ?_, fun z => absurd rfl z⟩
  exact f_47_721 hE ⟨by decide, h.k7, by decide, 0, 0, Nat.zero_le _, Nat.zero_le _, c_52_115 hsp h hx (fun S' n1 n2 => f_47_728 hE ⟨trivial, hQ1 S' α (-1) n1 (cX_go n2)⟩)⟩
theorem c_85_122 {a t : Nat} (hsp : ox_mono lw_sp) (hK : K < 2 ^ 31) (h : cE S x α C nc e q st) (hx : xEs1 C nc K e st) (htk : tkW 122 a = some t) (hl : t ≤ st.length) (hg : st.length - t + gvW 122 a ≤ 10) (hag : agW (C e.c).1 122 a) (hb : 122 = 122 → e.b.length < 4) (hb2 : 122 = 87 → e.b ≠ []) (hm : 2 ≤ mr) (hs : 20 ≤ sr) (hQ : ∀ S' α' y, cN x S S' → cX S' x α' C nc e q st (xIns C e q 122 a st) y → Q (some (.inl y)) S') : c_47_106 (ox_M lw_sp (d + 15)) (x + 11) (x + 28 + 5 * e.t.length) (nI 122) (nI a) S mr sr Q := by
  have hE : ox_mono (ox_M lw_sp (d + 15)) := ox_M_mono hsp _
  have et : t = 0 := (Option.some.inj (show some 0 = some t from htk)).symm
  have hg1 : st.length - t + 0 ≤ 10 := hg
  have s10 := hx.2.2.1
  have hQ1 : ∀ S' α' y, cN x S S' → cX S' x α' C nc e q st (.inr (e.H, e.n, e.G, (e.c, q, st, e.L, (st.length, q + a) :: e.b) :: e.t, none)) y → Q (some (.inl y)) S' := hQ
  refine f_47_106 hE ?_
  unfold q_47_106
  rw [nI_toInt (show 122 < 2 ^ 31 by decide)]
  refine ⟨fun z => absurd z (by decide), fun _ => ?_⟩
  refine ⟨fun z => absurd z (by decide), fun _ => ?_⟩
  refine ⟨fun z => absurd z (by decide), fun _ => ?_⟩
  refine ⟨fun z => absurd z (by decide), fun _ => ?_⟩
  refine ⟨fun z => absurd z (by decide), fun _ => ?_⟩
  refine ⟨fun z => absurd z (by decide), fun _ => ?_⟩
  refine ⟨fun z => absurd z (by decide), fun _ => ?_⟩
  refine ⟨fun z => absurd z (by decide), fun _ => ?_⟩
  refine ⟨fun z => absurd z (by decide), fun _ => ?_⟩
  refine ⟨fun z => absurd z (by decide), fun _ => ?_⟩
  refine ⟨fun z => absurd z (by decide), fun _ => ?_⟩
  refine ⟨fun z => absurd z (by decide), fun _ => ?_⟩
  refine ⟨fun z => absurd z (by decide), fun _ => ?_⟩
  refine ⟨fun z => absurd z (by decide), fun _ => ?_⟩
  refine ⟨fun z => absurd z (by decide), fun _ => ?_⟩
  refine ⟨fun z => absurd z (by decide), fun _ => ?_⟩
  refine ⟨fun z => absurd z (by decide), fun _ => ?_⟩
  refine ⟨fun z => absurd z (by decide), fun _ => ?_⟩
  refine ⟨fun z => absurd z (by decide), fun _ => ?_⟩
  refine ⟨fun z => absurd z (by decide), fun _ => ?_⟩
  refine ⟨fun z => absurd z (by decide), fun _ => ?_⟩
  refine ⟨fun z => absurd z (by decide), fun _ => ?_⟩
  refine ⟨fun z => absurd z (by decide), fun _ => ?_⟩
  refine ⟨fun z => absurd z (by decide), fun _ => ?_⟩
  refine ⟨fun z => absurd z (by decide), fun _ => ?_⟩
  refine ⟨fun z => absurd z (by decide), fun _ => ?_⟩
  refine ⟨fun z => absurd z (by decide), fun _ => ?_⟩
  refine ⟨fun z => absurd z (by decide), fun _ => ?_⟩
  refine ⟨fun z => absurd z (by decide), fun _ => ?_⟩
  refine ⟨fun z => absurd z (by decide), fun _ => ?_⟩
  refine ⟨fun z => absurd z (by decide), fun _ => ?_⟩
  refine ⟨fun z => absurd z (by decide), fun _ => ?_⟩
  refine ⟨fun z => absurd z (by decide), fun _ => ?_⟩
  refine ⟨fun z => absurd z (by decide), fun _ => ?_⟩
  refine ⟨fun z => absurd z (by decide), fun _ => ?_⟩
  refine ⟨fun z => absurd z (by decide), fun _ => ?_⟩
  refine ⟨fun z => absurd z (by decide), fun _ => ?_⟩
  refine ⟨fun z => absurd z (by decide), fun _ => ?_⟩
  refine ⟨fun z => absurd z (by decide), fun _ => ?_⟩
  refine ⟨fun z => absurd z (by decide), fun _ => ?_⟩
  refine ⟨fun z => absurd z (by decide), fun _ => ?_⟩
  refine ⟨fun z => absurd z (by decide), fun _ => ?_⟩
  refine ⟨fun z => absurd z (by decide), fun _ => ?_⟩
  refine ⟨fun z => absurd z (by decide), fun _ => ?_⟩
  refine ⟨fun z => absurd z (by decide), fun _ => ?_⟩
  refine ⟨fun z => absurd z (by decide), fun _ => ?_⟩
  refine ⟨fun z => absurd z (by decide), fun _ => ?_⟩
  refine ⟨fun z => absurd z (by decide), fun _ => ?_⟩
  refine ⟨fun z => absurd z (by decide), fun _ => ?_⟩
  refine ⟨fun z => absurd z (by decide), fun _ => ?_⟩
  refine ⟨fun z => absurd z (by decide), fun _ => ?_⟩
  refine ⟨fun z => absurd z (by decide), fun _ => ?_⟩
  refine ⟨fun z => absurd z (by decide), fun _ => ?_⟩
  refine ⟨fun z => absurd z (by decide), fun _ => ?_⟩
  refine ⟨fun z => absurd z (by decide), fun _ => ?_⟩
  refine ⟨fun z => absurd z (by decide), fun _ => ?_⟩
  refine ⟨fun z => absurd z (by decide), fun _ => ?_⟩
  refine ⟨fun z => absurd z (by decide), fun _ => ?_⟩
  refine ⟨fun z => absurd z (by decide), fun _ => ?_⟩
  refine ⟨fun z => absurd z (by decide), fun _ => ?_⟩
  refine ⟨fun z => absurd z (by decide), fun _ => ?_⟩
  refine ⟨fun z => absurd z (by decide), fun _ => ?_⟩
  refine ⟨fun z => absurd z (by decide), fun _ => ?_⟩
  refine ⟨fun z => absurd z (by decide), fun _ => ?_⟩
  refine ⟨fun z => absurd z (by decide), fun _ => ?_⟩
  refine ⟨fun z => absurd z (by decide), fun _ => ?_⟩
  refine ⟨fun z => absurd z (by decide), fun _ => ?_⟩
  refine ⟨fun z => absurd z (by decide), fun _ => ?_⟩
  refine ⟨fun z => absurd z (by decide), fun _ => ?_⟩
  refine ⟨fun z => absurd z (by decide), fun _ => ?_⟩
  refine ⟨fun z => absurd z (by decide), fun _ => ?_⟩
  refine ⟨fun z => absurd z (by decide), fun _ => ?_⟩
  refine ⟨fun z => absurd z (by decide), fun _ => ?_⟩
  refine ⟨fun z => absurd z (by decide), fun _ => ?_⟩
  refine ⟨fun z => absurd z (by decide), fun _ => ?_⟩
  refine ⟨fun z => absurd z (by decide), fun _ => ?_⟩
  refine ⟨fun z => absurd z (by decide), fun _ => ?_⟩
  refine ⟨fun z => absurd z (by decide), fun _ => ?_⟩
  refine ⟨fun z => absurd z (by decide), fun _ => ?_⟩
  refine ⟨fun z => absurd z (by decide), fun _ => ?_⟩
  refine ⟨fun z => absurd z (by decide), fun _ => ?_⟩
  refine ⟨fun z => absurd z (by decide), fun _ => ?_⟩
  refine ⟨fun z => absurd z (by decide), fun _ => ?_⟩
  refine ⟨fun z => absurd z (by decide), fun _ => ?_⟩
  refine ⟨fun z => absurd z (by decide), fun _ => ?_⟩
  refine ⟨fun z => absurd z (by decide), fun _ => ?_⟩
  refine ⟨fun z => absurd z (by decide), fun _ => ?_⟩
  refine ⟨fun z => absurd z (by decide), fun _ => ?_⟩
  refine ⟨fun z => absurd z (by decide), fun _ => ?_⟩
  refine ⟨fun z => absurd z (by decide), fun _ => ?_⟩
  refine ⟨fun z => absurd z (by decide), fun _ => ?_⟩
  refine ⟨fun z => absurd z (by decide), fun _ => ?_⟩
  refine ⟨fun z => absurd z (by decide), fun _ => ?_⟩
  refine ⟨fun z => absurd z (by decide), fun _ => ?_⟩
  refine ⟨fun z => absurd z (by decide), fun _ => ?_⟩
  refine ⟨fun z => absurd z (by decide), fun _ => ?_⟩
  refine ⟨fun z => absurd z (by decide), fun _ => ?_⟩
  refine ⟨fun z => absurd z (by decide), fun _ => ?_⟩
  refine ⟨fun z => absurd z (by decide), fun _ => ?_⟩
  refine ⟨fun z => absurd z (by decide), fun _ => ?_⟩
  refine ⟨fun z => absurd z (by decide), fun _ => ?_⟩
  refine ⟨fun z => absurd z (by decide), fun _ => ?_⟩
  refine ⟨fun z => absurd z (by decide), fun _ => ?_⟩
  refine ⟨fun z => absurd z (by decide), fun _ => ?_⟩
  refine ⟨fun z => absurd z (by decide), fun _ => ?_⟩
  refine ⟨fun z => absurd z (by decide), fun _ => ?_⟩
  refine ⟨fun z => absurd z (by decide), fun _ => ?_⟩
  refine ⟨fun z => absurd z (by decide), fun _ => ?_⟩
  refine ⟨fun z => absurd z (by decide), fun _ => ?_⟩
  refine ⟨fun z => absurd z (by decide), fun _ => ?_⟩
  refine ⟨fun z => absurd z (by decide), fun _ => ?_⟩
  refine ⟨fun z => absurd z (by decide), fun _ => ?_⟩
  refine ⟨fun z => absurd z (by decide), fun _ => ?_⟩
  refine ⟨fun z => absurd z (by decide), fun _ => ?_⟩
  refine ⟨fun z => absurd z (by decide), fun _ => ?_⟩
  refine ⟨fun z => absurd z (by decide), fun _ => ?_⟩
  refine ⟨fun z => absurd z (by decide), fun _ => ?_⟩
  refine ⟨fun z => absurd z (by decide), fun _ => ?_⟩
  refine ⟨fun z => absurd z (by decide), fun _ => ?_⟩
  refine ⟨fun z => absurd z (by decide), fun _ => ?_⟩
  refine ⟨fun z => absurd z (by decide), fun _ => ?_⟩
  refine ⟨fun _ => ?_, fun z => absurd rfl z⟩
  exact f_47_729 hE ⟨by decide, by decide, 0, 0, Nat.zero_le _, Nat.zero_le _, c_53_122 hsp h hx (hb rfl) (fun S' n1 n2 => f_47_735 hE ⟨trivial, hQ1 S' α (-1) n1 ⟨rfl, n2⟩⟩)⟩
theorem c_85_124 {a t : Nat} (hsp : ox_mono lw_sp) (hK : K < 2 ^ 31) (h : cE S x α C nc e q st) (hx : xEs1 C nc K e st) (htk : tkW 124 a = some t) (hl : t ≤ st.length) (hg : st.length - t + gvW 124 a ≤ 10) (hag : agW (C e.c).1 124 a) (hb : 124 = 122 → e.b.length < 4) (hb2 : 124 = 87 → e.b ≠ []) (hm : 2 ≤ mr) (hs : 20 ≤ sr) (hQ : ∀ S' α' y, cN x S S' → cX S' x α' C nc e q st (xIns C e q 124 a st) y → Q (some (.inl y)) S') : c_47_106 (ox_M lw_sp (d + 15)) (x + 11) (x + 28 + 5 * e.t.length) (nI 124) (nI a) S mr sr Q := by
  have hE : ox_mono (ox_M lw_sp (d + 15)) := ox_M_mono hsp _
  have et : t = 0 := (Option.some.inj (show some 0 = some t from htk)).symm
  have hg1 : st.length - t + 1 ≤ 10 := hg
  have s10 := hx.2.2.1
  obtain ⟨⟨-, -, o3, -⟩, -, cK, cW, -⟩ := hx.1.2.1 e.c hx.1.2.2.2.1
  have hQ1 : ∀ S' α' y, cN x S S' → cX S' x α' C nc e q st ((match e.L a with
      | some v => xGo e q (v :: st)
      | none => .inl 4)) y → Q (some (.inl y)) S' := hQ
  refine f_47_106 hE ?_
  unfold q_47_106
  rw [nI_toInt (show 124 < 2 ^ 31 by decide)]
  refine ⟨fun z => absurd z (by decide), fun _ => ?_⟩
  refine ⟨fun z => absurd z (by decide), fun _ => ?_⟩
  refine ⟨fun z => absurd z (by decide), fun _ => ?_⟩
  refine ⟨fun z => absurd z (by decide), fun _ => ?_⟩
  refine ⟨fun z => absurd z (by decide), fun _ => ?_⟩
  refine ⟨fun z => absurd z (by decide), fun _ => ?_⟩
  refine ⟨fun z => absurd z (by decide), fun _ => ?_⟩
  refine ⟨fun z => absurd z (by decide), fun _ => ?_⟩
  refine ⟨fun z => absurd z (by decide), fun _ => ?_⟩
  refine ⟨fun z => absurd z (by decide), fun _ => ?_⟩
  refine ⟨fun z => absurd z (by decide), fun _ => ?_⟩
  refine ⟨fun z => absurd z (by decide), fun _ => ?_⟩
  refine ⟨fun z => absurd z (by decide), fun _ => ?_⟩
  refine ⟨fun z => absurd z (by decide), fun _ => ?_⟩
  refine ⟨fun z => absurd z (by decide), fun _ => ?_⟩
  refine ⟨fun z => absurd z (by decide), fun _ => ?_⟩
  refine ⟨fun z => absurd z (by decide), fun _ => ?_⟩
  refine ⟨fun z => absurd z (by decide), fun _ => ?_⟩
  refine ⟨fun z => absurd z (by decide), fun _ => ?_⟩
  refine ⟨fun z => absurd z (by decide), fun _ => ?_⟩
  refine ⟨fun z => absurd z (by decide), fun _ => ?_⟩
  refine ⟨fun z => absurd z (by decide), fun _ => ?_⟩
  refine ⟨fun z => absurd z (by decide), fun _ => ?_⟩
  refine ⟨fun z => absurd z (by decide), fun _ => ?_⟩
  refine ⟨fun z => absurd z (by decide), fun _ => ?_⟩
  refine ⟨fun z => absurd z (by decide), fun _ => ?_⟩
  refine ⟨fun z => absurd z (by decide), fun _ => ?_⟩
  refine ⟨fun z => absurd z (by decide), fun _ => ?_⟩
  refine ⟨fun z => absurd z (by decide), fun _ => ?_⟩
  refine ⟨fun z => absurd z (by decide), fun _ => ?_⟩
  refine ⟨fun z => absurd z (by decide), fun _ => ?_⟩
  refine ⟨fun z => absurd z (by decide), fun _ => ?_⟩
  refine ⟨fun z => absurd z (by decide), fun _ => ?_⟩
  refine ⟨fun z => absurd z (by decide), fun _ => ?_⟩
  refine ⟨fun z => absurd z (by decide), fun _ => ?_⟩
  refine ⟨fun z => absurd z (by decide), fun _ => ?_⟩
  refine ⟨fun z => absurd z (by decide), fun _ => ?_⟩
  refine ⟨fun z => absurd z (by decide), fun _ => ?_⟩
  refine ⟨fun z => absurd z (by decide), fun _ => ?_⟩
  refine ⟨fun z => absurd z (by decide), fun _ => ?_⟩
  refine ⟨fun z => absurd z (by decide), fun _ => ?_⟩
  refine ⟨fun z => absurd z (by decide), fun _ => ?_⟩
  refine ⟨fun z => absurd z (by decide), fun _ => ?_⟩
  refine ⟨fun z => absurd z (by decide), fun _ => ?_⟩
  refine ⟨fun z => absurd z (by decide), fun _ => ?_⟩
  refine ⟨fun z => absurd z (by decide), fun _ => ?_⟩
  refine ⟨fun z => absurd z (by decide), fun _ => ?_⟩
  refine ⟨fun z => absurd z (by decide), fun _ => ?_⟩
  refine ⟨fun z => absurd z (by decide), fun _ => ?_⟩
  refine ⟨fun z => absurd z (by decide), fun _ => ?_⟩
  refine ⟨fun z => absurd z (by decide), fun _ => ?_⟩
  refine ⟨fun z => absurd z (by decide), fun _ => ?_⟩
  refine ⟨fun z => absurd z (by decide), fun _ => ?_⟩
  refine ⟨fun z => absurd z (by decide), fun _ => ?_⟩
  refine ⟨fun z => absurd z (by decide), fun _ => ?_⟩
  refine ⟨fun z => absurd z (by decide), fun _ => ?_⟩
  refine ⟨fun z => absurd z (by decide), fun _ => ?_⟩
  refine ⟨fun z => absurd z (by decide), fun _ => ?_⟩
  refine ⟨fun z => absurd z (by decide), fun _ => ?_⟩
  refine ⟨fun z => absurd z (by decide), fun _ => ?_⟩
  refine ⟨fun z => absurd z (by decide), fun _ => ?_⟩
  refine ⟨fun z => absurd z (by decide), fun _ => ?_⟩
  refine ⟨fun z => absurd z (by decide), fun _ => ?_⟩
  refine ⟨fun z => absurd z (by decide), fun _ => ?_⟩
  refine ⟨fun z => absurd z (by decide), fun _ => ?_⟩
  refine ⟨fun z => absurd z (by decide), fun _ => ?_⟩
  refine ⟨fun z => absurd z (by decide), fun _ => ?_⟩
  refine ⟨fun z => absurd z (by decide), fun _ => ?_⟩
  refine ⟨fun z => absurd z (by decide), fun _ => ?_⟩
  refine ⟨fun z => absurd z (by decide), fun _ => ?_⟩
  refine ⟨fun z => absurd z (by decide), fun _ => ?_⟩
  refine ⟨fun z => absurd z (by decide), fun _ => ?_⟩
  refine ⟨fun z => absurd z (by decide), fun _ => ?_⟩
  refine ⟨fun z => absurd z (by decide), fun _ => ?_⟩
  refine ⟨fun z => absurd z (by decide), fun _ => ?_⟩
  refine ⟨fun z => absurd z (by decide), fun _ => ?_⟩
  refine ⟨fun z => absurd z (by decide), fun _ => ?_⟩
  refine ⟨fun z => absurd z (by decide), fun _ => ?_⟩
  refine ⟨fun z => absurd z (by decide), fun _ => ?_⟩
  refine ⟨fun z => absurd z (by decide), fun _ => ?_⟩
  refine ⟨fun z => absurd z (by decide), fun _ => ?_⟩
  refine ⟨fun z => absurd z (by decide), fun _ => ?_⟩
  refine ⟨fun z => absurd z (by decide), fun _ => ?_⟩
  refine ⟨fun z => absurd z (by decide), fun _ => ?_⟩
  refine ⟨fun z => absurd z (by decide), fun _ => ?_⟩
  refine ⟨fun z => absurd z (by decide), fun _ => ?_⟩
  refine ⟨fun z => absurd z (by decide), fun _ => ?_⟩
  refine ⟨fun z => absurd z (by decide), fun _ => ?_⟩
  refine ⟨fun z => absurd z (by decide), fun _ => ?_⟩
  refine ⟨fun z => absurd z (by decide), fun _ => ?_⟩
  refine ⟨fun z => absurd z (by decide), fun _ => ?_⟩
  refine ⟨fun z => absurd z (by decide), fun _ => ?_⟩
  refine ⟨fun z => absurd z (by decide), fun _ => ?_⟩
  refine ⟨fun z => absurd z (by decide), fun _ => ?_⟩
  refine ⟨fun z => absurd z (by decide), fun _ => ?_⟩
  refine ⟨fun z => absurd z (by decide), fun _ => ?_⟩
  refine ⟨fun z => absurd z (by decide), fun _ => ?_⟩
  refine ⟨fun z => absurd z (by decide), fun _ => ?_⟩
  refine ⟨fun z => absurd z (by decide), fun _ => ?_⟩
  refine ⟨fun z => absurd z (by decide), fun _ => ?_⟩
  refine ⟨fun z => absurd z (by decide), fun _ => ?_⟩
  refine ⟨fun z => absurd z (by decide), fun _ => ?_⟩
  refine ⟨fun z => absurd z (by decide), fun _ => ?_⟩
  refine ⟨fun z => absurd z (by decide), fun _ => ?_⟩
  refine ⟨fun z => absurd z (by decide), fun _ => ?_⟩
  refine ⟨fun z => absurd z (by decide), fun _ => ?_⟩
  refine ⟨fun z => absurd z (by decide), fun _ => ?_⟩
  refine ⟨fun z => absurd z (by decide), fun _ => ?_⟩
  refine ⟨fun z => absurd z (by decide), fun _ => ?_⟩
  refine ⟨fun z => absurd z (by decide), fun _ => ?_⟩
  refine ⟨fun z => absurd z (by decide), fun _ => ?_⟩
  refine ⟨fun z => absurd z (by decide), fun _ => ?_⟩
  refine ⟨fun z => absurd z (by decide), fun _ => ?_⟩
  refine ⟨fun z => absurd z (by decide), fun _ => ?_⟩
  refine ⟨fun z => absurd z (by decide), fun _ => ?_⟩
  refine ⟨fun z => absurd z (by decide), fun _ => ?_⟩
  refine ⟨fun z => absurd z (by decide), fun _ => ?_⟩
  refine ⟨fun z => absurd z (by decide), fun _ => ?_⟩
  refine ⟨fun z => absurd z (by decide), fun _ => ?_⟩
  refine ⟨fun z => absurd z (by decide), fun _ => ?_⟩
  refine ⟨fun z => absurd z (by decide), fun _ => ?_⟩
  refine ⟨fun z => absurd z (by decide), fun _ => ?_⟩
  refine ⟨fun z => absurd z (by decide), fun _ => ?_⟩
  refine ⟨fun _ => ?_, fun z => absurd rfl z⟩
  exact f_47_736 hE ⟨by decide, h.k7, by decide, 0, 0, Nat.zero_le _, Nat.zero_le _, c_68_124 hsp h hx (by have := hag.2.2.1 (Or.inl rfl); omega) (by omega) (fun S' y n1 n2 => f_47_743 hE ⟨trivial, hQ1 S' α y n1 n2⟩)⟩
theorem c_85_125 {a t : Nat} (hsp : ox_mono lw_sp) (hK : K < 2 ^ 31) (h : cE S x α C nc e q st) (hx : xEs1 C nc K e st) (htk : tkW 125 a = some t) (hl : t ≤ st.length) (hg : st.length - t + gvW 125 a ≤ 10) (hag : agW (C e.c).1 125 a) (hb : 125 = 122 → e.b.length < 4) (hb2 : 125 = 87 → e.b ≠ []) (hm : 2 ≤ mr) (hs : 20 ≤ sr) (hQ : ∀ S' α' y, cN x S S' → cX S' x α' C nc e q st (xIns C e q 125 a st) y → Q (some (.inl y)) S') : c_47_106 (ox_M lw_sp (d + 15)) (x + 11) (x + 28 + 5 * e.t.length) (nI 125) (nI a) S mr sr Q := by
  have hE : ox_mono (ox_M lw_sp (d + 15)) := ox_M_mono hsp _
  have et : t = 1 := (Option.some.inj (show some 1 = some t from htk)).symm
  have hg1 : st.length - t + 0 ≤ 10 := hg
  have s10 := hx.2.2.1
  obtain ⟨⟨-, -, o3, -⟩, -, cK, cW, -⟩ := hx.1.2.1 e.c hx.1.2.2.2.1
  obtain ⟨v, r, rfl⟩ := ls1 (st := st) (by omega)
  simp only [List.length_cons] at hg1 hl s10
  have hQ1 : ∀ S' α' y, cN x S S' → cX S' x α' C nc e q (v :: r) (.inr (e.H, e.n, e.G, (e.c, q, r, (fun i => if i = a then some v else e.L i), e.b) :: e.t, none)) y → Q (some (.inl y)) S' := hQ
  refine f_47_106 hE ?_
  unfold q_47_106
  rw [nI_toInt (show 125 < 2 ^ 31 by decide)]
  refine ⟨fun z => absurd z (by decide), fun _ => ?_⟩
  refine ⟨fun z => absurd z (by decide), fun _ => ?_⟩
  refine ⟨fun z => absurd z (by decide), fun _ => ?_⟩
  refine ⟨fun z => absurd z (by decide), fun _ => ?_⟩
  refine ⟨fun z => absurd z (by decide), fun _ => ?_⟩
  refine ⟨fun z => absurd z (by decide), fun _ => ?_⟩
  refine ⟨fun z => absurd z (by decide), fun _ => ?_⟩
  refine ⟨fun z => absurd z (by decide), fun _ => ?_⟩
  refine ⟨fun z => absurd z (by decide), fun _ => ?_⟩
  refine ⟨fun z => absurd z (by decide), fun _ => ?_⟩
  refine ⟨fun z => absurd z (by decide), fun _ => ?_⟩
  refine ⟨fun z => absurd z (by decide), fun _ => ?_⟩
  refine ⟨fun z => absurd z (by decide), fun _ => ?_⟩
  refine ⟨fun z => absurd z (by decide), fun _ => ?_⟩
  refine ⟨fun z => absurd z (by decide), fun _ => ?_⟩
  refine ⟨fun z => absurd z (by decide), fun _ => ?_⟩
  refine ⟨fun z => absurd z (by decide), fun _ => ?_⟩
  refine ⟨fun z => absurd z (by decide), fun _ => ?_⟩
  refine ⟨fun z => absurd z (by decide), fun _ => ?_⟩
  refine ⟨fun z => absurd z (by decide), fun _ => ?_⟩
  refine ⟨fun z => absurd z (by decide), fun _ => ?_⟩
  refine ⟨fun z => absurd z (by decide), fun _ => ?_⟩
  refine ⟨fun z => absurd z (by decide), fun _ => ?_⟩
  refine ⟨fun z => absurd z (by decide), fun _ => ?_⟩
  refine ⟨fun z => absurd z (by decide), fun _ => ?_⟩
  refine ⟨fun z => absurd z (by decide), fun _ => ?_⟩
  refine ⟨fun z => absurd z (by decide), fun _ => ?_⟩
  refine ⟨fun z => absurd z (by decide), fun _ => ?_⟩
  refine ⟨fun z => absurd z (by decide), fun _ => ?_⟩
  refine ⟨fun z => absurd z (by decide), fun _ => ?_⟩
  refine ⟨fun z => absurd z (by decide), fun _ => ?_⟩
  refine ⟨fun z => absurd z (by decide), fun _ => ?_⟩
  refine ⟨fun z => absurd z (by decide), fun _ => ?_⟩
  refine ⟨fun z => absurd z (by decide), fun _ => ?_⟩
  refine ⟨fun z => absurd z (by decide), fun _ => ?_⟩
  refine ⟨fun z => absurd z (by decide), fun _ => ?_⟩
  refine ⟨fun z => absurd z (by decide), fun _ => ?_⟩
  refine ⟨fun z => absurd z (by decide), fun _ => ?_⟩
  refine ⟨fun z => absurd z (by decide), fun _ => ?_⟩
  refine ⟨fun z => absurd z (by decide), fun _ => ?_⟩
  refine ⟨fun z => absurd z (by decide), fun _ => ?_⟩
  refine ⟨fun z => absurd z (by decide), fun _ => ?_⟩
  refine ⟨fun z => absurd z (by decide), fun _ => ?_⟩
  refine ⟨fun z => absurd z (by decide), fun _ => ?_⟩
  refine ⟨fun z => absurd z (by decide), fun _ => ?_⟩
  refine ⟨fun z => absurd z (by decide), fun _ => ?_⟩
  refine ⟨fun z => absurd z (by decide), fun _ => ?_⟩
  refine ⟨fun z => absurd z (by decide), fun _ => ?_⟩
  refine ⟨fun z => absurd z (by decide), fun _ => ?_⟩
  refine ⟨fun z => absurd z (by decide), fun _ => ?_⟩
  refine ⟨fun z => absurd z (by decide), fun _ => ?_⟩
  refine ⟨fun z => absurd z (by decide), fun _ => ?_⟩
  refine ⟨fun z => absurd z (by decide), fun _ => ?_⟩
  refine ⟨fun z => absurd z (by decide), fun _ => ?_⟩
  refine ⟨fun z => absurd z (by decide), fun _ => ?_⟩
  refine ⟨fun z => absurd z (by decide), fun _ => ?_⟩
  refine ⟨fun z => absurd z (by decide), fun _ => ?_⟩
  refine ⟨fun z => absurd z (by decide), fun _ => ?_⟩
  refine ⟨fun z => absurd z (by decide), fun _ => ?_⟩
  refine ⟨fun z => absurd z (by decide), fun _ => ?_⟩
  refine ⟨fun z => absurd z (by decide), fun _ => ?_⟩
  refine ⟨fun z => absurd z (by decide), fun _ => ?_⟩
  refine ⟨fun z => absurd z (by decide), fun _ => ?_⟩
  refine ⟨fun z => absurd z (by decide), fun _ => ?_⟩
  refine ⟨fun z => absurd z (by decide), fun _ => ?_⟩
  refine ⟨fun z => absurd z (by decide), fun _ => ?_⟩
  refine ⟨fun z => absurd z (by decide), fun _ => ?_⟩
  refine ⟨fun z => absurd z (by decide), fun _ => ?_⟩
  refine ⟨fun z => absurd z (by decide), fun _ => ?_⟩
  refine ⟨fun z => absurd z (by decide), fun _ => ?_⟩
  refine ⟨fun z => absurd z (by decide), fun _ => ?_⟩
  refine ⟨fun z => absurd z (by decide), fun _ => ?_⟩
  refine ⟨fun z => absurd z (by decide), fun _ => ?_⟩
  refine ⟨fun z => absurd z (by decide), fun _ => ?_⟩
  refine ⟨fun z => absurd z (by decide), fun _ => ?_⟩
  refine ⟨fun z => absurd z (by decide), fun _ => ?_⟩
  refine ⟨fun z => absurd z (by decide), fun _ => ?_⟩
  refine ⟨fun z => absurd z (by decide), fun _ => ?_⟩
  refine ⟨fun z => absurd z (by decide), fun _ => ?_⟩
  refine ⟨fun z => absurd z (by decide), fun _ => ?_⟩
  refine ⟨fun z => absurd z (by decide), fun _ => ?_⟩
  refine ⟨fun z => absurd z (by decide), fun _ => ?_⟩
  refine ⟨fun z => absurd z (by decide), fun _ => ?_⟩
  refine ⟨fun z => absurd z (by decide), fun _ => ?_⟩
  refine ⟨fun z => absurd z (by decide), fun _ => ?_⟩
  refine ⟨fun z => absurd z (by decide), fun _ => ?_⟩
  refine ⟨fun z => absurd z (by decide), fun _ => ?_⟩
  refine ⟨fun z => absurd z (by decide), fun _ => ?_⟩
  refine ⟨fun z => absurd z (by decide), fun _ => ?_⟩
  refine ⟨fun z => absurd z (by decide), fun _ => ?_⟩
  refine ⟨fun z => absurd z (by decide), fun _ => ?_⟩
  refine ⟨fun z => absurd z (by decide), fun _ => ?_⟩
  refine ⟨fun z => absurd z (by decide), fun _ => ?_⟩
  refine ⟨fun z => absurd z (by decide), fun _ => ?_⟩
  refine ⟨fun z => absurd z (by decide), fun _ => ?_⟩
  refine ⟨fun z => absurd z (by decide), fun _ => ?_⟩
  refine ⟨fun z => absurd z (by decide), fun _ => ?_⟩
  refine ⟨fun z => absurd z (by decide), fun _ => ?_⟩
  refine ⟨fun z => absurd z (by decide), fun _ => ?_⟩
  refine ⟨fun z => absurd z (by decide), fun _ => ?_⟩
  refine ⟨fun z => absurd z (by decide), fun _ => ?_⟩
  refine ⟨fun z => absurd z (by decide), fun _ => ?_⟩
  refine ⟨fun z => absurd z (by decide), fun _ => ?_⟩
  refine ⟨fun z => absurd z (by decide), fun _ => ?_⟩
  refine ⟨fun z => absurd z (by decide), fun _ => ?_⟩
  refine ⟨fun z => absurd z (by decide), fun _ => ?_⟩
  refine ⟨fun z => absurd z (by decide), fun _ => ?_⟩
  refine ⟨fun z => absurd z (by decide), fun _ => ?_⟩
  refine ⟨fun z => absurd z (by decide), fun _ => ?_⟩
  refine ⟨fun z => absurd z (by decide), fun _ => ?_⟩
  refine ⟨fun z => absurd z (by decide), fun _ => ?_⟩
  refine ⟨fun z => absurd z (by decide), fun _ => ?_⟩
  refine ⟨fun z => absurd z (by decide), fun _ => ?_⟩
  refine ⟨fun z => absurd z (by decide), fun _ => ?_⟩
  refine ⟨fun z => absurd z (by decide), fun _ => ?_⟩
  refine ⟨fun z => absurd z (by decide), fun _ => ?_⟩
  refine ⟨fun z => absurd z (by decide), fun _ => ?_⟩
  refine ⟨fun z => absurd z (by decide), fun _ => ?_⟩
  refine ⟨fun z => absurd z (by decide), fun _ => ?_⟩
  refine ⟨fun z => absurd z (by decide), fun _ => ?_⟩
  refine ⟨fun z => absurd z (by decide), fun _ => ?_⟩
  refine ⟨fun z => absurd z (by decide), fun _ => ?_⟩
  refine ⟨fun z => absurd z (by decide), fun _ => ?_⟩
  refine ⟨fun z => absurd z (by decide), fun _ => ?_⟩
  refine ⟨fun _ => ?_, fun z => absurd rfl z⟩
  exact f_47_744 hE ⟨by decide, h.k7, by decide, 0, 0, Nat.zero_le _, Nat.zero_le _, c_69_125 hsp h hx (by have := hag.2.2.1 (Or.inr rfl); omega) (fun S' n1 n2 => f_47_751 hE ⟨trivial, hQ1 S' α (-1) n1 ⟨rfl, n2⟩⟩)⟩
theorem c_85_130 {a t : Nat} (hsp : ox_mono lw_sp) (hK : K < 2 ^ 31) (h : cE S x α C nc e q st) (hx : xEs1 C nc K e st) (htk : tkW 130 a = some t) (hl : t ≤ st.length) (hg : st.length - t + gvW 130 a ≤ 10) (hag : agW (C e.c).1 130 a) (hb : 130 = 122 → e.b.length < 4) (hb2 : 130 = 87 → e.b ≠ []) (hm : 2 ≤ mr) (hs : 20 ≤ sr) (hQ : ∀ S' α' y, cN x S S' → cX S' x α' C nc e q st (xIns C e q 130 a st) y → Q (some (.inl y)) S') : c_47_106 (ox_M lw_sp (d + 15)) (x + 11) (x + 28 + 5 * e.t.length) (nI 130) (nI a) S mr sr Q := by
  have hE : ox_mono (ox_M lw_sp (d + 15)) := ox_M_mono hsp _
  have et : t = 1 := (Option.some.inj (show some 1 = some t from htk)).symm
  have hg1 : st.length - t + 0 ≤ 10 := hg
  have s10 := hx.2.2.1
  obtain ⟨v, r, rfl⟩ := ls1 (st := st) (by omega)
  simp only [List.length_cons] at hg1 hl s10
  have hQ1 : ∀ S' α' y, cN x S S' → cX S' x α' C nc e q (v :: r) (.inl (if xIsK v = true then (v - 4).toNat else 0)) y → Q (some (.inl y)) S' := hQ
  refine f_47_106 hE ?_
  unfold q_47_106
  rw [nI_toInt (show 130 < 2 ^ 31 by decide)]
  refine ⟨fun z => absurd z (by decide), fun _ => ?_⟩
  refine ⟨fun z => absurd z (by decide), fun _ => ?_⟩
  refine ⟨fun z => absurd z (by decide), fun _ => ?_⟩
  refine ⟨fun z => absurd z (by decide), fun _ => ?_⟩
  refine ⟨fun z => absurd z (by decide), fun _ => ?_⟩
  refine ⟨fun z => absurd z (by decide), fun _ => ?_⟩
  refine ⟨fun z => absurd z (by decide), fun _ => ?_⟩
  refine ⟨fun z => absurd z (by decide), fun _ => ?_⟩
  refine ⟨fun z => absurd z (by decide), fun _ => ?_⟩
  refine ⟨fun z => absurd z (by decide), fun _ => ?_⟩
  refine ⟨fun z => absurd z (by decide), fun _ => ?_⟩
  refine ⟨fun z => absurd z (by decide), fun _ => ?_⟩
  refine ⟨fun z => absurd z (by decide), fun _ => ?_⟩
  refine ⟨fun z => absurd z (by decide), fun _ => ?_⟩
  refine ⟨fun z => absurd z (by decide), fun _ => ?_⟩
  refine ⟨fun z => absurd z (by decide), fun _ => ?_⟩
  refine ⟨fun z => absurd z (by decide), fun _ => ?_⟩
  refine ⟨fun z => absurd z (by decide), fun _ => ?_⟩
  refine ⟨fun z => absurd z (by decide), fun _ => ?_⟩
  refine ⟨fun z => absurd z (by decide), fun _ => ?_⟩
  refine ⟨fun z => absurd z (by decide), fun _ => ?_⟩
  refine ⟨fun z => absurd z (by decide), fun _ => ?_⟩
  refine ⟨fun z => absurd z (by decide), fun _ => ?_⟩
  refine ⟨fun z => absurd z (by decide), fun _ => ?_⟩
  refine ⟨fun z => absurd z (by decide), fun _ => ?_⟩
  refine ⟨fun z => absurd z (by decide), fun _ => ?_⟩
  refine ⟨fun z => absurd z (by decide), fun _ => ?_⟩
  refine ⟨fun z => absurd z (by decide), fun _ => ?_⟩
  refine ⟨fun z => absurd z (by decide), fun _ => ?_⟩
  refine ⟨fun z => absurd z (by decide), fun _ => ?_⟩
  refine ⟨fun z => absurd z (by decide), fun _ => ?_⟩
  refine ⟨fun z => absurd z (by decide), fun _ => ?_⟩
  refine ⟨fun z => absurd z (by decide), fun _ => ?_⟩
  refine ⟨fun z => absurd z (by decide), fun _ => ?_⟩
  refine ⟨fun z => absurd z (by decide), fun _ => ?_⟩
  refine ⟨fun z => absurd z (by decide), fun _ => ?_⟩
  refine ⟨fun z => absurd z (by decide), fun _ => ?_⟩
  refine ⟨fun z => absurd z (by decide), fun _ => ?_⟩
  refine ⟨fun z => absurd z (by decide), fun _ => ?_⟩
  refine ⟨fun z => absurd z (by decide), fun _ => ?_⟩
  refine ⟨fun z => absurd z (by decide), fun _ => ?_⟩
  refine ⟨fun z => absurd z (by decide), fun _ => ?_⟩
  refine ⟨fun z => absurd z (by decide), fun _ => ?_⟩
  refine ⟨fun z => absurd z (by decide), fun _ => ?_⟩
  refine ⟨fun z => absurd z (by decide), fun _ => ?_⟩
  refine ⟨fun z => absurd z (by decide), fun _ => ?_⟩
  refine ⟨fun z => absurd z (by decide), fun _ => ?_⟩
  refine ⟨fun z => absurd z (by decide), fun _ => ?_⟩
  refine ⟨fun z => absurd z (by decide), fun _ => ?_⟩
  refine ⟨fun z => absurd z (by decide), fun _ => ?_⟩
  refine ⟨fun z => absurd z (by decide), fun _ => ?_⟩
  refine ⟨fun z => absurd z (by decide), fun _ => ?_⟩
  refine ⟨fun z => absurd z (by decide), fun _ => ?_⟩
  refine ⟨fun z => absurd z (by decide), fun _ => ?_⟩
  refine ⟨fun z => absurd z (by decide), fun _ => ?_⟩
  refine ⟨fun z => absurd z (by decide), fun _ => ?_⟩
  refine ⟨fun z => absurd z (by decide), fun _ => ?_⟩
  refine ⟨fun z => absurd z (by decide), fun _ => ?_⟩
  refine ⟨fun z => absurd z (by decide), fun _ => ?_⟩
  refine ⟨fun z => absurd z (by decide), fun _ => ?_⟩
  refine ⟨fun z => absurd z (by decide), fun _ => ?_⟩
  refine ⟨fun z => absurd z (by decide), fun _ => ?_⟩
  refine ⟨fun z => absurd z (by decide), fun _ => ?_⟩
  refine ⟨fun z => absurd z (by decide), fun _ => ?_⟩
  refine ⟨fun z => absurd z (by decide), fun _ => ?_⟩
  refine ⟨fun z => absurd z (by decide), fun _ => ?_⟩
  refine ⟨fun z => absurd z (by decide), fun _ => ?_⟩
  refine ⟨fun z => absurd z (by decide), fun _ => ?_⟩
  refine ⟨fun z => absurd z (by decide), fun _ => ?_⟩
  refine ⟨fun z => absurd z (by decide), fun _ => ?_⟩
  refine ⟨fun z => absurd z (by decide), fun _ => ?_⟩
  refine ⟨fun z => absurd z (by decide), fun _ => ?_⟩
  refine ⟨fun z => absurd z (by decide), fun _ => ?_⟩
  refine ⟨fun z => absurd z (by decide), fun _ => ?_⟩
  refine ⟨fun z => absurd z (by decide), fun _ => ?_⟩
  refine ⟨fun z => absurd z (by decide), fun _ => ?_⟩
  refine ⟨fun z => absurd z (by decide), fun _ => ?_⟩
  refine ⟨fun z => absurd z (by decide), fun _ => ?_⟩
  refine ⟨fun z => absurd z (by decide), fun _ => ?_⟩
  refine ⟨fun z => absurd z (by decide), fun _ => ?_⟩
  refine ⟨fun z => absurd z (by decide), fun _ => ?_⟩
  refine ⟨fun z => absurd z (by decide), fun _ => ?_⟩
  refine ⟨fun z => absurd z (by decide), fun _ => ?_⟩
  refine ⟨fun z => absurd z (by decide), fun _ => ?_⟩
  refine ⟨fun z => absurd z (by decide), fun _ => ?_⟩
  refine ⟨fun z => absurd z (by decide), fun _ => ?_⟩
  refine ⟨fun z => absurd z (by decide), fun _ => ?_⟩
  refine ⟨fun z => absurd z (by decide), fun _ => ?_⟩
  refine ⟨fun z => absurd z (by decide), fun _ => ?_⟩
  refine ⟨fun z => absurd z (by decide), fun _ => ?_⟩
  refine ⟨fun z => absurd z (by decide), fun _ => ?_⟩
  refine ⟨fun z => absurd z (by decide), fun _ => ?_⟩
  refine ⟨fun z => absurd z (by decide), fun _ => ?_⟩
  refine ⟨fun z => absurd z (by decide), fun _ => ?_⟩
  refine ⟨fun z => absurd z (by decide), fun _ => ?_⟩
  refine ⟨fun z => absurd z (by decide), fun _ => ?_⟩
  refine ⟨fun z => absurd z (by decide), fun _ => ?_⟩
  refine ⟨fun z => absurd z (by decide), fun _ => ?_⟩
  refine ⟨fun z => absurd z (by decide), fun _ => ?_⟩
  refine ⟨fun z => absurd z (by decide), fun _ => ?_⟩
  refine ⟨fun z => absurd z (by decide), fun _ => ?_⟩
  refine ⟨fun z => absurd z (by decide), fun _ => ?_⟩
  refine ⟨fun z => absurd z (by decide), fun _ => ?_⟩
  refine ⟨fun z => absurd z (by decide), fun _ => ?_⟩
  refine ⟨fun z => absurd z (by decide), fun _ => ?_⟩
  refine ⟨fun z => absurd z (by decide), fun _ => ?_⟩
  refine ⟨fun z => absurd z (by decide), fun _ => ?_⟩
  refine ⟨fun z => absurd z (by decide), fun _ => ?_⟩
  refine ⟨fun z => absurd z (by decide), fun _ => ?_⟩
  refine ⟨fun z => absurd z (by decide), fun _ => ?_⟩
  refine ⟨fun z => absurd z (by decide), fun _ => ?_⟩
  refine ⟨fun z => absurd z (by decide), fun _ => ?_⟩
  refine ⟨fun z => absurd z (by decide), fun _ => ?_⟩
  refine ⟨fun z => absurd z (by decide), fun _ => ?_⟩
  refine ⟨fun z => absurd z (by decide), fun _ => ?_⟩
  refine ⟨fun z => absurd z (by decide), fun _ => ?_⟩
  refine ⟨fun z => absurd z (by decide), fun _ => ?_⟩
  refine ⟨fun z => absurd z (by decide), fun _ => ?_⟩
  refine ⟨fun z => absurd z (by decide), fun _ => ?_⟩
  refine ⟨fun z => absurd z (by decide), fun _ => ?_⟩
  refine ⟨fun z => absurd z (by decide), fun _ => ?_⟩
  refine ⟨fun z => absurd z (by decide), fun _ => ?_⟩
  refine ⟨fun z => absurd z (by decide), fun _ => ?_⟩
  refine ⟨fun z => absurd z (by decide), fun _ => ?_⟩
  refine ⟨fun z => absurd z (by decide), fun _ => ?_⟩
  refine ⟨fun z => absurd z (by decide), fun _ => ?_⟩
  refine ⟨fun z => absurd z (by decide), fun _ => ?_⟩
  refine ⟨fun z => absurd z (by decide), fun _ => ?_⟩
  refine ⟨fun z => absurd z (by decide), fun _ => ?_⟩
  refine ⟨fun _ => ?_, fun z => absurd rfl z⟩
  refine ⟨by decide, (h.oF hx).1, by decide, 0, 0, Nat.zero_le _, Nat.zero_le _, c_top hsp h hx (fun hv => f_47_775 hE ⟨by decide, by decide, 0, 0, Nat.zero_le _, Nat.zero_le _, s_72 hsp (h.kv hx hv hx.head).2.2 (f_47_778 hE ⟨trivial, hQ1 S α _ cN.refl ⟨?_, h⟩⟩)⟩)⟩
  obtain ⟨t1, t2⟩ := xIsK_t h hx hv hx.head
  by_cases z : xIsK v = true
  · rw [if_pos z, if_pos (t1.mpr z), t2 z]
  · rw [if_neg z, if_neg (fun w => z (t1.mp w))]
    rfl
theorem c_85_131 {a t : Nat} (hsp : ox_mono lw_sp) (hK : K < 2 ^ 31) (h : cE S x α C nc e q st) (hx : xEs1 C nc K e st) (htk : tkW 131 a = some t) (hl : t ≤ st.length) (hg : st.length - t + gvW 131 a ≤ 10) (hag : agW (C e.c).1 131 a) (hb : 131 = 122 → e.b.length < 4) (hb2 : 131 = 87 → e.b ≠ []) (hm : 2 ≤ mr) (hs : 20 ≤ sr) (hQ : ∀ S' α' y, cN x S S' → cX S' x α' C nc e q st (xIns C e q 131 a st) y → Q (some (.inl y)) S') : c_47_106 (ox_M lw_sp (d + 15)) (x + 11) (x + 28 + 5 * e.t.length) (nI 131) (nI a) S mr sr Q := by
  have hE : ox_mono (ox_M lw_sp (d + 15)) := ox_M_mono hsp _
  have et : t = (a + 1) := (Option.some.inj (show some (a + 1) = some t from htk)).symm
  have hg1 : st.length - t + 1 ≤ 10 := hg
  have s10 := hx.2.2.1
  have hQ1 : ∀ S' α' y, cN x S S' → cX S' x α' C nc e q st (xCall C e q a (st.take a) (st.drop (a + 1)) (st.getD a 0)) y → Q (some (.inl y)) S' := hQ
  refine f_47_106 hE ?_
  unfold q_47_106
  rw [nI_toInt (show 131 < 2 ^ 31 by decide)]
  refine ⟨fun z => absurd z (by decide), fun _ => ?_⟩
  refine ⟨fun z => absurd z (by decide), fun _ => ?_⟩
  refine ⟨fun z => absurd z (by decide), fun _ => ?_⟩
  refine ⟨fun z => absurd z (by decide), fun _ => ?_⟩
  refine ⟨fun z => absurd z (by decide), fun _ => ?_⟩
  refine ⟨fun z => absurd z (by decide), fun _ => ?_⟩
  refine ⟨fun z => absurd z (by decide), fun _ => ?_⟩
  refine ⟨fun z => absurd z (by decide), fun _ => ?_⟩
  refine ⟨fun z => absurd z (by decide), fun _ => ?_⟩
  refine ⟨fun z => absurd z (by decide), fun _ => ?_⟩
  refine ⟨fun z => absurd z (by decide), fun _ => ?_⟩
  refine ⟨fun z => absurd z (by decide), fun _ => ?_⟩
  refine ⟨fun z => absurd z (by decide), fun _ => ?_⟩
  refine ⟨fun z => absurd z (by decide), fun _ => ?_⟩
  refine ⟨fun z => absurd z (by decide), fun _ => ?_⟩
  refine ⟨fun z => absurd z (by decide), fun _ => ?_⟩
  refine ⟨fun z => absurd z (by decide), fun _ => ?_⟩
  refine ⟨fun z => absurd z (by decide), fun _ => ?_⟩
  refine ⟨fun z => absurd z (by decide), fun _ => ?_⟩
  refine ⟨fun z => absurd z (by decide), fun _ => ?_⟩
  refine ⟨fun z => absurd z (by decide), fun _ => ?_⟩
  refine ⟨fun z => absurd z (by decide), fun _ => ?_⟩
  refine ⟨fun z => absurd z (by decide), fun _ => ?_⟩
  refine ⟨fun z => absurd z (by decide), fun _ => ?_⟩
  refine ⟨fun z => absurd z (by decide), fun _ => ?_⟩
  refine ⟨fun z => absurd z (by decide), fun _ => ?_⟩
  refine ⟨fun z => absurd z (by decide), fun _ => ?_⟩
  refine ⟨fun z => absurd z (by decide), fun _ => ?_⟩
  refine ⟨fun z => absurd z (by decide), fun _ => ?_⟩
  refine ⟨fun z => absurd z (by decide), fun _ => ?_⟩
  refine ⟨fun z => absurd z (by decide), fun _ => ?_⟩
  refine ⟨fun z => absurd z (by decide), fun _ => ?_⟩
  refine ⟨fun z => absurd z (by decide), fun _ => ?_⟩
  refine ⟨fun z => absurd z (by decide), fun _ => ?_⟩
  refine ⟨fun z => absurd z (by decide), fun _ => ?_⟩
  refine ⟨fun z => absurd z (by decide), fun _ => ?_⟩
  refine ⟨fun z => absurd z (by decide), fun _ => ?_⟩
  refine ⟨fun z => absurd z (by decide), fun _ => ?_⟩
  refine ⟨fun z => absurd z (by decide), fun _ => ?_⟩
  refine ⟨fun z => absurd z (by decide), fun _ => ?_⟩
  refine ⟨fun z => absurd z (by decide), fun _ => ?_⟩
  refine ⟨fun z => absurd z (by decide), fun _ => ?_⟩
  refine ⟨fun z => absurd z (by decide), fun _ => ?_⟩
  refine ⟨fun z => absurd z (by decide), fun _ => ?_⟩
  refine ⟨fun z => absurd z (by decide), fun _ => ?_⟩
  refine ⟨fun z => absurd z (by decide), fun _ => ?_⟩
  refine ⟨fun z => absurd z (by decide), fun _ => ?_⟩
  refine ⟨fun z => absurd z (by decide), fun _ => ?_⟩
  refine ⟨fun z => absurd z (by decide), fun _ => ?_⟩
  refine ⟨fun z => absurd z (by decide), fun _ => ?_⟩
  refine ⟨fun z => absurd z (by decide), fun _ => ?_⟩
  refine ⟨fun z => absurd z (by decide), fun _ => ?_⟩
  refine ⟨fun z => absurd z (by decide), fun _ => ?_⟩
  refine ⟨fun z => absurd z (by decide), fun _ => ?_⟩
  refine ⟨fun z => absurd z (by decide), fun _ => ?_⟩
  refine ⟨fun z => absurd z (by decide), fun _ => ?_⟩
  refine ⟨fun z => absurd z (by decide), fun _ => ?_⟩
  refine ⟨fun z => absurd z (by decide), fun _ => ?_⟩
  refine ⟨fun z => absurd z (by decide), fun _ => ?_⟩
  refine ⟨fun z => absurd z (by decide), fun _ => ?_⟩
  refine ⟨fun z => absurd z (by decide), fun _ => ?_⟩
  refine ⟨fun z => absurd z (by decide), fun _ => ?_⟩
  refine ⟨fun z => absurd z (by decide), fun _ => ?_⟩
  refine ⟨fun z => absurd z (by decide), fun _ => ?_⟩
  refine ⟨fun z => absurd z (by decide), fun _ => ?_⟩
  refine ⟨fun z => absurd z (by decide), fun _ => ?_⟩
  refine ⟨fun z => absurd z (by decide), fun _ => ?_⟩
  refine ⟨fun z => absurd z (by decide), fun _ => ?_⟩
  refine ⟨fun z => absurd z (by decide), fun _ => ?_⟩
  refine ⟨fun z => absurd z (by decide), fun _ => ?_⟩
  refine ⟨fun z => absurd z (by decide), fun _ => ?_⟩
  refine ⟨fun z => absurd z (by decide), fun _ => ?_⟩
  refine ⟨fun z => absurd z (by decide), fun _ => ?_⟩
  refine ⟨fun z => absurd z (by decide), fun _ => ?_⟩
  refine ⟨fun z => absurd z (by decide), fun _ => ?_⟩
  refine ⟨fun z => absurd z (by decide), fun _ => ?_⟩
  refine ⟨fun z => absurd z (by decide), fun _ => ?_⟩
  refine ⟨fun z => absurd z (by decide), fun _ => ?_⟩
  refine ⟨fun z => absurd z (by decide), fun _ => ?_⟩
  refine ⟨fun z => absurd z (by decide), fun _ => ?_⟩
  refine ⟨fun z => absurd z (by decide), fun _ => ?_⟩
  refine ⟨fun z => absurd z (by decide), fun _ => ?_⟩
  refine ⟨fun z => absurd z (by decide), fun _ => ?_⟩
  refine ⟨fun z => absurd z (by decide), fun _ => ?_⟩
  refine ⟨fun z => absurd z (by decide), fun _ => ?_⟩
  refine ⟨fun z => absurd z (by decide), fun _ => ?_⟩
  refine ⟨fun z => absurd z (by decide), fun _ => ?_⟩
  refine ⟨fun z => absurd z (by decide), fun _ => ?_⟩
  refine ⟨fun z => absurd z (by decide), fun _ => ?_⟩
  refine ⟨fun z => absurd z (by decide), fun _ => ?_⟩
  refine ⟨fun z => absurd z (by decide), fun _ => ?_⟩
  refine ⟨fun z => absurd z (by decide), fun _ => ?_⟩
  refine ⟨fun z => absurd z (by decide), fun _ => ?_⟩
  refine ⟨fun z => absurd z (by decide), fun _ => ?_⟩
  refine ⟨fun z => absurd z (by decide), fun _ => ?_⟩
  refine ⟨fun z => absurd z (by decide), fun _ => ?_⟩
  refine ⟨fun z => absurd z (by decide), fun _ => ?_⟩
  refine ⟨fun z => absurd z (by decide), fun _ => ?_⟩
  refine ⟨fun z => absurd z (by decide), fun _ => ?_⟩
  refine ⟨fun z => absurd z (by decide), fun _ => ?_⟩
  refine ⟨fun z => absurd z (by decide), fun _ => ?_⟩
  refine ⟨fun z => absurd z (by decide), fun _ => ?_⟩
  refine ⟨fun z => absurd z (by decide), fun _ => ?_⟩
  refine ⟨fun z => absurd z (by decide), fun _ => ?_⟩
  refine ⟨fun z => absurd z (by decide), fun _ => ?_⟩
  refine ⟨fun z => absurd z (by decide), fun _ => ?_⟩
  refine ⟨fun z => absurd z (by decide), fun _ => ?_⟩
  refine ⟨fun z => absurd z (by decide), fun _ => ?_⟩
  refine ⟨fun z => absurd z (by decide), fun _ => ?_⟩
  refine ⟨fun z => absurd z (by decide), fun _ => ?_⟩
  refine ⟨fun z => absurd z (by decide), fun _ => ?_⟩
  refine ⟨fun z => absurd z (by decide), fun _ => ?_⟩
  refine ⟨fun z => absurd z (by decide), fun _ => ?_⟩
  refine ⟨fun z => absurd z (by decide), fun _ => ?_⟩
  refine ⟨fun z => absurd z (by decide), fun _ => ?_⟩
  refine ⟨fun z => absurd z (by decide), fun _ => ?_⟩
  refine ⟨fun z => absurd z (by decide), fun _ => ?_⟩
  refine ⟨fun z => absurd z (by decide), fun _ => ?_⟩
  refine ⟨fun z => absurd z (by decide), fun _ => ?_⟩
  refine ⟨fun z => absurd z (by decide), fun _ => ?_⟩
  refine ⟨fun z => absurd z (by decide), fun _ => ?_⟩
  refine ⟨fun z => absurd z (by decide), fun _ => ?_⟩
  refine ⟨fun z => absurd z (by decide), fun _ => ?_⟩
  refine ⟨fun z => absurd z (by decide), fun _ => ?_⟩
  refine ⟨fun z => absurd z (by decide), fun _ => ?_⟩
  refine ⟨fun z => absurd z (by decide), fun _ => ?_⟩
  refine ⟨fun z => absurd z (by decide), fun _ => ?_⟩
  refine ⟨fun z => absurd z (by decide), fun _ => ?_⟩
  refine ⟨fun z => absurd z (by decide), fun _ => ?_⟩
  refine ⟨fun z => absurd z (by decide), fun _ => ?_⟩
  refine ⟨fun _ => ?_, fun z => absurd rfl z⟩
  exact ⟨by decide, h.k7, by decide, 2, 20, hm, hs, c_74 (hag.2.2.2.2.1 rfl) (by omega) h hx (Nat.le_refl _) (Nat.le_refl _) (fun S' α' y n1 n2 => f_47_763 hE ⟨trivial, hQ1 S' α' y n1 n2⟩)⟩
theorem c_85_132 {a t : Nat} (hsp : ox_mono lw_sp) (hK : K < 2 ^ 31) (h : cE S x α C nc e q st) (hx : xEs1 C nc K e st) (htk : tkW 132 a = some t) (hl : t ≤ st.length) (hg : st.length - t + gvW 132 a ≤ 10) (hag : agW (C e.c).1 132 a) (hb : 132 = 122 → e.b.length < 4) (hb2 : 132 = 87 → e.b ≠ []) (hm : 2 ≤ mr) (hs : 20 ≤ sr) (hQ : ∀ S' α' y, cN x S S' → cX S' x α' C nc e q st (xIns C e q 132 a st) y → Q (some (.inl y)) S') : c_47_106 (ox_M lw_sp (d + 15)) (x + 11) (x + 28 + 5 * e.t.length) (nI 132) (nI a) S mr sr Q := by
  have hE : ox_mono (ox_M lw_sp (d + 15)) := ox_M_mono hsp _
  have et : t = 1 := (Option.some.inj (show some 1 = some t from htk)).symm
  have hg1 : st.length - t + 1 ≤ 10 := hg
  have s10 := hx.2.2.1
  obtain ⟨v, r, rfl⟩ := ls1 (st := st) (by omega)
  simp only [List.length_cons] at hg1 hl s10
  have hQ1 : ∀ S' α' y, cN x S S' → cX S' x α' C nc e q (v :: r) ((if v < 0 then xMk e q r (.inr (.inr (.inr (.inr (-1 - v).toNat)))) else .inl 0)) y → Q (some (.inl y)) S' := hQ
  refine f_47_106 hE ?_
  unfold q_47_106
  rw [nI_toInt (show 132 < 2 ^ 31 by decide)]
  refine ⟨fun z => absurd z (by decide), fun _ => ?_⟩
  refine ⟨fun z => absurd z (by decide), fun _ => ?_⟩
  refine ⟨fun z => absurd z (by decide), fun _ => ?_⟩
  refine ⟨fun z => absurd z (by decide), fun _ => ?_⟩
  refine ⟨fun z => absurd z (by decide), fun _ => ?_⟩
  refine ⟨fun z => absurd z (by decide), fun _ => ?_⟩
  refine ⟨fun z => absurd z (by decide), fun _ => ?_⟩
  refine ⟨fun z => absurd z (by decide), fun _ => ?_⟩
  refine ⟨fun z => absurd z (by decide), fun _ => ?_⟩
  refine ⟨fun z => absurd z (by decide), fun _ => ?_⟩
  refine ⟨fun z => absurd z (by decide), fun _ => ?_⟩
  refine ⟨fun z => absurd z (by decide), fun _ => ?_⟩
  refine ⟨fun z => absurd z (by decide), fun _ => ?_⟩
  refine ⟨fun z => absurd z (by decide), fun _ => ?_⟩
  refine ⟨fun z => absurd z (by decide), fun _ => ?_⟩
  refine ⟨fun z => absurd z (by decide), fun _ => ?_⟩
  refine ⟨fun z => absurd z (by decide), fun _ => ?_⟩
  refine ⟨fun z => absurd z (by decide), fun _ => ?_⟩
  refine ⟨fun z => absurd z (by decide), fun _ => ?_⟩
  refine ⟨fun z => absurd z (by decide), fun _ => ?_⟩
  refine ⟨fun z => absurd z (by decide), fun _ => ?_⟩
  refine ⟨fun z => absurd z (by decide), fun _ => ?_⟩
  refine ⟨fun z => absurd z (by decide), fun _ => ?_⟩
  refine ⟨fun z => absurd z (by decide), fun _ => ?_⟩
  refine ⟨fun z => absurd z (by decide), fun _ => ?_⟩
  refine ⟨fun z => absurd z (by decide), fun _ => ?_⟩
  refine ⟨fun z => absurd z (by decide), fun _ => ?_⟩
  refine ⟨fun z => absurd z (by decide), fun _ => ?_⟩
  refine ⟨fun z => absurd z (by decide), fun _ => ?_⟩
  refine ⟨fun z => absurd z (by decide), fun _ => ?_⟩
  refine ⟨fun z => absurd z (by decide), fun _ => ?_⟩
  refine ⟨fun z => absurd z (by decide), fun _ => ?_⟩
  refine ⟨fun z => absurd z (by decide), fun _ => ?_⟩
  refine ⟨fun z => absurd z (by decide), fun _ => ?_⟩
  refine ⟨fun z => absurd z (by decide), fun _ => ?_⟩
  refine ⟨fun z => absurd z (by decide), fun _ => ?_⟩
  refine ⟨fun z => absurd z (by decide), fun _ => ?_⟩
  refine ⟨fun z => absurd z (by decide), fun _ => ?_⟩
  refine ⟨fun z => absurd z (by decide), fun _ => ?_⟩
  refine ⟨fun z => absurd z (by decide), fun _ => ?_⟩
  refine ⟨fun z => absurd z (by decide), fun _ => ?_⟩
  refine ⟨fun z => absurd z (by decide), fun _ => ?_⟩
  refine ⟨fun z => absurd z (by decide), fun _ => ?_⟩
  refine ⟨fun z => absurd z (by decide), fun _ => ?_⟩
  refine ⟨fun z => absurd z (by decide), fun _ => ?_⟩
  refine ⟨fun z => absurd z (by decide), fun _ => ?_⟩
  refine ⟨fun z => absurd z (by decide), fun _ => ?_⟩
  refine ⟨fun z => absurd z (by decide), fun _ => ?_⟩
  refine ⟨fun z => absurd z (by decide), fun _ => ?_⟩
  refine ⟨fun z => absurd z (by decide), fun _ => ?_⟩
  refine ⟨fun z => absurd z (by decide), fun _ => ?_⟩
  refine ⟨fun z => absurd z (by decide), fun _ => ?_⟩
  refine ⟨fun z => absurd z (by decide), fun _ => ?_⟩
  refine ⟨fun z => absurd z (by decide), fun _ => ?_⟩
  refine ⟨fun z => absurd z (by decide), fun _ => ?_⟩
  refine ⟨fun z => absurd z (by decide), fun _ => ?_⟩
  refine ⟨fun z => absurd z (by decide), fun _ => ?_⟩
  refine ⟨fun z => absurd z (by decide), fun _ => ?_⟩
  refine ⟨fun z => absurd z (by decide), fun _ => ?_⟩
  refine ⟨fun z => absurd z (by decide), fun _ => ?_⟩
  refine ⟨fun z => absurd z (by decide), fun _ => ?_⟩
  refine ⟨fun z => absurd z (by decide), fun _ => ?_⟩
  refine ⟨fun z => absurd z (by decide), fun _ => ?_⟩
  refine ⟨fun z => absurd z (by decide), fun _ => ?_⟩
  refine ⟨fun z => absurd z (by decide), fun _ => ?_⟩
  refine ⟨fun z => absurd z (by decide), fun _ => ?_⟩
  refine ⟨fun z => absurd z (by decide), fun _ => ?_⟩
  refine ⟨fun z => absurd z (by decide), fun _ => ?_⟩
  refine ⟨fun z => absurd z (by decide), fun _ => ?_⟩
  refine ⟨fun z => absurd z (by decide), fun _ => ?_⟩
  refine ⟨fun z => absurd z (by decide), fun _ => ?_⟩
  refine ⟨fun z => absurd z (by decide), fun _ => ?_⟩
  refine ⟨fun z => absurd z (by decide), fun _ => ?_⟩
  refine ⟨fun z => absurd z (by decide), fun _ => ?_⟩
  refine ⟨fun z => absurd z (by decide), fun _ => ?_⟩
  refine ⟨fun z => absurd z (by decide), fun _ => ?_⟩
  refine ⟨fun z => absurd z (by decide), fun _ => ?_⟩
  refine ⟨fun z => absurd z (by decide), fun _ => ?_⟩
  refine ⟨fun z => absurd z (by decide), fun _ => ?_⟩
  refine ⟨fun z => absurd z (by decide), fun _ => ?_⟩
  refine ⟨fun z => absurd z (by decide), fun _ => ?_⟩
  refine ⟨fun z => absurd z (by decide), fun _ => ?_⟩
  refine ⟨fun z => absurd z (by decide), fun _ => ?_⟩
  refine ⟨fun z => absurd z (by decide), fun _ => ?_⟩
  refine ⟨fun z => absurd z (by decide), fun _ => ?_⟩
  refine ⟨fun z => absurd z (by decide), fun _ => ?_⟩
  refine ⟨fun z => absurd z (by decide), fun _ => ?_⟩
  refine ⟨fun z => absurd z (by decide), fun _ => ?_⟩
  refine ⟨fun z => absurd z (by decide), fun _ => ?_⟩
  refine ⟨fun z => absurd z (by decide), fun _ => ?_⟩
  refine ⟨fun z => absurd z (by decide), fun _ => ?_⟩
  refine ⟨fun z => absurd z (by decide), fun _ => ?_⟩
  refine ⟨fun z => absurd z (by decide), fun _ => ?_⟩
  refine ⟨fun z => absurd z (by decide), fun _ => ?_⟩
  refine ⟨fun z => absurd z (by decide), fun _ => ?_⟩
  refine ⟨fun z => absurd z (by decide), fun _ => ?_⟩
  refine ⟨fun z => absurd z (by decide), fun _ => ?_⟩
  refine ⟨fun z => absurd z (by decide), fun _ => ?_⟩
  refine ⟨fun z => absurd z (by decide), fun _ => ?_⟩
  refine ⟨fun z => absurd z (by decide), fun _ => ?_⟩
  refine ⟨fun z => absurd z (by decide), fun _ => ?_⟩
  refine ⟨fun z => absurd z (by decide), fun _ => ?_⟩
  refine ⟨fun z => absurd z (by decide), fun _ => ?_⟩
  refine ⟨fun z => absurd z (by decide), fun _ => ?_⟩
  refine ⟨fun z => absurd z (by decide), fun _ => ?_⟩
  refine ⟨fun z => absurd z (by decide), fun _ => ?_⟩
  refine ⟨fun z => absurd z (by decide), fun _ => ?_⟩
  refine ⟨fun z => absurd z (by decide), fun _ => ?_⟩
  refine ⟨fun z => absurd z (by decide), fun _ => ?_⟩
  refine ⟨fun z => absurd z (by decide), fun _ => ?_⟩
  refine ⟨fun z => absurd z (by decide), fun _ => ?_⟩
  refine ⟨fun z => absurd z (by decide), fun _ => ?_⟩
  refine ⟨fun z => absurd z (by decide), fun _ => ?_⟩
  refine ⟨fun z => absurd z (by decide), fun _ => ?_⟩
  refine ⟨fun z => absurd z (by decide), fun _ => ?_⟩
  refine ⟨fun z => absurd z (by decide), fun _ => ?_⟩
  refine ⟨fun z => absurd z (by decide), fun _ => ?_⟩
  refine ⟨fun z => absurd z (by decide), fun _ => ?_⟩
  refine ⟨fun z => absurd z (by decide), fun _ => ?_⟩
  refine ⟨fun z => absurd z (by decide), fun _ => ?_⟩
  refine ⟨fun z => absurd z (by decide), fun _ => ?_⟩
  refine ⟨fun z => absurd z (by decide), fun _ => ?_⟩
  refine ⟨fun z => absurd z (by decide), fun _ => ?_⟩
  refine ⟨fun z => absurd z (by decide), fun _ => ?_⟩
  refine ⟨fun z => absurd z (by decide), fun _ => ?_⟩
  refine ⟨fun z => absurd z (by decide), fun _ => ?_⟩
  refine ⟨fun z => absurd z (by decide), fun _ => ?_⟩
  refine ⟨fun z => absurd z (by decide), fun _ => ?_⟩
  refine ⟨fun z => absurd z (by decide), fun _ => ?_⟩
  refine ⟨fun z => absurd z (by decide), fun _ => ?_⟩
  refine ⟨fun z => absurd z (by decide), fun _ => ?_⟩
  refine ⟨fun _ => ?_, fun z => absurd rfl z⟩
  exact ⟨by decide, by decide, 2, 20, hm, hs, c_73 h hx (Nat.le_refl _) (Nat.le_refl _) (fun S' α' y n1 n2 => f_47_756 hE ⟨trivial, hQ1 S' α' y n1 n2⟩)⟩
theorem c_85 {w a t : Nat} (hK : K < 2 ^ 31) (h : cE S x α C nc e q st) (hx : xEs1 C nc K e st) (htk : tkW w a = some t) (hl : t ≤ st.length) (hg : st.length - t + gvW w a ≤ 10) (hag : agW (C e.c).1 w a) (hb : w = 122 → e.b.length < 4) (hb2 : w = 87 → e.b ≠ []) (hm : 2 ≤ mr) (hs : 20 ≤ sr) (hQ : ∀ S' α' y, cN x S S' → cX S' x α' C nc e q st (xIns C e q w a st) y → Q (some (.inl y)) S') : c_47_106 (ox_M lw_sp (d + 15)) (x + 11) (x + 28 + 5 * e.t.length) (nI w) (nI a) S mr sr Q := by
  have hsp := lw_sp_mono
  by_cases z1 : w = 1
  · subst z1; exact c_85_1 hsp hK h hx htk hl hg hag hb hb2 hm hs hQ
  by_cases z2 : w = 2
  · subst z2; exact c_85_2 hsp hK h hx htk hl hg hag hb hb2 hm hs hQ
  by_cases z3 : w = 3
  · subst z3; exact c_85_3 hsp hK h hx htk hl hg hag hb hb2 hm hs hQ
  by_cases z4 : w = 4
  · subst z4; exact c_85_4 hsp hK h hx htk hl hg hag hb hb2 hm hs hQ
  by_cases z11 : w = 11
  · subst z11; exact c_85_11 hsp hK h hx htk hl hg hag hb hb2 hm hs hQ
  by_cases z12 : w = 12
  · subst z12; exact c_85_12 hsp hK h hx htk hl hg hag hb hb2 hm hs hQ
  by_cases z20 : w = 20
  · subst z20; exact c_85_20 hsp hK h hx htk hl hg hag hb hb2 hm hs hQ
  by_cases z22 : w = 22
  · subst z22; exact c_85_22 hsp hK h hx htk hl hg hag hb hb2 hm hs hQ
  by_cases z24 : w = 24
  · subst z24; exact c_85_24 hsp hK h hx htk hl hg hag hb hb2 hm hs hQ
  by_cases z26 : w = 26
  · subst z26; exact c_85_26 hsp hK h hx htk hl hg hag hb hb2 hm hs hQ
  by_cases z23 : w = 23
  · subst z23; exact c_85_23 hsp hK h hx htk hl hg hag hb hb2 hm hs hQ
  by_cases z25 : w = 25
  · subst z25; exact c_85_25 hsp hK h hx htk hl hg hag hb hb2 hm hs hQ
  by_cases z68 : w = 68
  · subst z68; exact c_85_68 hsp hK h hx htk hl hg hag hb hb2 hm hs hQ
  by_cases z83 : w = 83
  · subst z83; exact c_85_83 hsp hK h hx htk hl hg hag hb hb2 hm hs hQ
  by_cases z87 : w = 87
  · subst z87; exact c_85_87 hsp hK h hx htk hl hg hag hb hb2 hm hs hQ
  by_cases z90 : w = 90
  · subst z90; exact c_85_90 hsp hK h hx htk hl hg hag hb hb2 hm hs hQ
  by_cases z92 : w = 92
  · subst z92; exact c_85_92 hsp hK h hx htk hl hg hag hb hb2 hm hs hQ
  by_cases z93 : w = 93
  · subst z93; exact c_85_93 hsp hK h hx htk hl hg hag hb hb2 hm hs hQ
  by_cases z100 : w = 100
  · subst z100; exact c_85_100 hsp hK h hx htk hl hg hag hb hb2 hm hs hQ
  by_cases z101 : w = 101
  · subst z101; exact c_85_101 hsp hK h hx htk hl hg hag hb hb2 hm hs hQ
  by_cases z102 : w = 102
  · subst z102; exact c_85_102 hsp hK h hx htk hl hg hag hb hb2 hm hs hQ
  by_cases z107 : w = 107
  · subst z107; exact c_85_107 hsp hK h hx htk hl hg hag hb hb2 hm hs hQ
  by_cases z110 : w = 110
  · subst z110; exact c_85_110 hsp hK h hx htk hl hg hag hb hb2 hm hs hQ
  by_cases z113 : w = 113
  · subst z113; exact c_85_113 hsp hK h hx htk hl hg hag hb hb2 hm hs hQ
  by_cases z114 : w = 114
  · subst z114; exact c_85_114 hsp hK h hx htk hl hg hag hb hb2 hm hs hQ
  by_cases z115 : w = 115
  · subst z115; exact c_85_115 hsp hK h hx htk hl hg hag hb hb2 hm hs hQ
  by_cases z122 : w = 122
  · subst z122; exact c_85_122 hsp hK h hx htk hl hg hag hb hb2 hm hs hQ
  by_cases z124 : w = 124
  · subst z124; exact c_85_124 hsp hK h hx htk hl hg hag hb hb2 hm hs hQ
  by_cases z125 : w = 125
  · subst z125; exact c_85_125 hsp hK h hx htk hl hg hag hb hb2 hm hs hQ
  by_cases z130 : w = 130
  · subst z130; exact c_85_130 hsp hK h hx htk hl hg hag hb hb2 hm hs hQ
  by_cases z131 : w = 131
  · subst z131; exact c_85_131 hsp hK h hx htk hl hg hag hb hb2 hm hs hQ
  by_cases z132 : w = 132
  · subst z132; exact c_85_132 hsp hK h hx htk hl hg hag hb hb2 hm hs hQ
  exfalso
  unfold tkW at htk
  rw [if_neg (by omega), if_neg (by omega), if_neg (by omega), if_neg (by omega), if_neg (by omega), if_neg (by omega)] at htk
  cases htk
end CSw
