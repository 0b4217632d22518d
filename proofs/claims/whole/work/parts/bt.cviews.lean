/-! the class: result, stack, local, global -/
/-- withoutZeros -/
def wzB (j : Int64) (i : Nat) : Int64 := ((Int64.toUInt64 j >>> ((Int32.toInt64 (8 * nI i)).toUInt64 &&& Int64.toUInt64 63)).toInt64) &&& 255
def wzL (j : Int64) : Nat → Int64 → Int64
  | 0, o => o
  | i + 1, o => wzL j i (if wzB j i = 0 then o else (o <<< (Int32.toInt64 8 &&& 63)) ||| wzB j i)
/-- the result, a value of the stack, of the locals, of the names -/
def xVr (s : xSt) : Option Int := if s.s = 2 then some s.r else none
def xVs (s : xSt) (w : Int32) : Option Int := match s.f with
  | [] => none
  | g :: _ => if w < 0 then none else g.2.2.1[w.toNatClampNeg]?
def xVl (s : xSt) (w : Int32) : Option Int := match s.f with
  | [] => none
  | g :: _ => if w < 0 then none else if w < 8 then g.2.2.2.1 w.toNatClampNeg else none
section CVw
variable {sp : ox_E} {d mr sr : Nat} {S T : ox_St} {Q : ox_Q} {x : Nat} {α : Int → Nat} {C : Nat → xCd} {nc K : Nat} {s : xSt}
theorem c_106_l {E : ox_E} (hE : ox_mono E) {j : Int64} : ∀ (i mr sr : Nat) (o : Int64), i < 2 ^ 31 → Q (some (.inr (.inl (wzL j i o)))) S → c_106_6 E j o (nI i - 1) S mr sr Q
  | 0, mr, sr, o, _, hQ => f_106_6 hE ⟨fun _ => ⟨rfl, hQ⟩, fun z => absurd (by decide) z⟩
  | i + 1, mr, sr, o, hi1, hQ => by
    rw [nI_pred]
    have hi : i < 2 ^ 31 := by omega
    have e1 : nI i + (-1) = nI i - 1 := by rw [Int32.sub_eq_add_neg]
    refine f_106_6 hE ⟨fun z => absurd z (nI_pos hi), fun _ => ?_⟩
    rw [e1]
    have hQ' : Q (some (.inr (.inl (wzL j i (if wzB j i = 0 then o else (o <<< (Int32.toInt64 8 &&& 63)) ||| wzB j i))))) S := hQ
    refine ⟨fun z => ?_, fun z => ?_⟩
    · have z' : wzB j i = 0 := (lg_cmp_eq _ _).mp z
      rw [if_pos z'] at hQ'
      exact c_106_l hE i mr sr _ hi hQ'
    · have z' : ¬ wzB j i = 0 := fun y => z ((lg_cmp_eq _ _).mpr y)
      rw [if_neg z'] at hQ'
      exact c_106_l hE i mr sr _ hi hQ'
theorem c_106 (hsp : ox_mono sp) {j : Int64} (hQ : Q (some (.inr (.inl (wzL j 8 0)))) S) : ox_M sp (d + 1) 106 [.inr (.inl j)] mr sr S Q := by
  refine f_106 hsp ?_
  show c_106_6 (ox_M sp d) j 0 (nI 8 - 1) S mr sr Q
  exact c_106_l (ox_M_mono hsp _) 8 mr sr 0 (by decide) hQ
theorem i_nI {w : Int32} (z : ¬ w < 0) : ∃ p : Nat, p < 2 ^ 31 ∧ w = nI p := by
  rw [Int32.lt_iff_toInt_lt] at z
  have z' : ¬ w.toInt < 0 := z
  have lt := Int32.toInt_lt w
  have e1 : w = Int32.ofInt w.toInt := (Int32.ofInt_toInt w).symm
  have e2 : w.toInt = (w.toInt.toNat : Int) := by omega
  exact ⟨w.toInt.toNat, by omega, e1.trans (congrArg Int32.ofInt e2)⟩
theorem xTell_nil {w : Int32} : xTell [] w = -1 := by
  unfold xTell
  by_cases z : w < 0
  · rw [if_pos z]
  · rw [if_neg z]
    by_cases y : w < 300
    · rw [if_pos y]; rfl
    · rw [if_neg y]
/-- result -/
theorem c_101 (hsp : ox_mono sp) {w : Int32} (h : cR S x α C nc s) (hw : xWf C nc K s) (hQ : ∀ T, cQ x S T → Q (some (.inl (xTell (xRow0 C s.H (xVr s)) w))) T) : ox_M sp (d + 9) 101 [.inr (.inr x), .inl w] mr sr S Q := by
  have hE : ox_mono (ox_M sp (d + 8)) := ox_M_mono hsp _
  have k0 : S.K x = 13 := h.1.1.obj (o := 0) (by decide)
  have r66 : S.R 66 x = x + 11 := h.1.1.ref (o := 0) (by decide)
  have k7 : S.K (x + 11) = 7 := h.1.1.obj (by decide)
  refine f_101 hsp ⟨by rw [k0]; rfl, by rw [r66, k7]; rfl, by decide, k0, by decide, 0, 0, Nat.zero_le _, Nat.zero_le _, ?_⟩
  rw [r66]
  refine c_107 hsp h.1 h.2.1 hw.1 (o := xVr s) (fun v e => ?_) ?_ (fun T q => f_101_12 hE ⟨trivial, hQ T q⟩)
  · unfold xVr at e
    by_cases z : s.s = 2
    · rw [if_pos z] at e; cases e; exact hw.2.2.2.2.2.1
    · rw [if_neg z] at e; cases e
  · unfold xVr
    by_cases z : s.s = 2
    · rw [if_pos z]; exact h.2.2.2.2.2.2.2.1 z
    · rw [if_neg z]; exact h.2.2.2.2.2.2.2.2 z
/-- stack -/
theorem c_102 (hsp : ox_mono sp) {w u : Int32} (h : cR S x α C nc s) (hw : xWf C nc K s) (hQ : ∀ T, cQ x S T → Q (some (.inl (xTell (xRow0 C s.H (xVs s u)) w))) T) : ox_M sp (d + 9) 102 [.inr (.inr x), .inl u, .inl w] mr sr S Q := by
  have hE : ox_mono (ox_M sp (d + 8)) := ox_M_mono hsp _
  have k0 : S.K x = 13 := h.1.1.obj (o := 0) (by decide)
  have r66 : S.R 66 x = x + 11 := h.1.1.ref (o := 0) (by decide)
  have k7 : S.K (x + 11) = 7 := h.1.1.obj (by decide)
  obtain ⟨h1, h2, h3, ⟨f8, h4⟩, -⟩ := id hw
  refine f_102 hsp ⟨by rw [k0]; rfl, by decide, by rw [r66]; exact k7, by decide, 0, 0, Nat.zero_le _, Nat.zero_le _, ?_⟩
  rw [r66]
  refine c_44 hsp h.1 f8 h.2.2.2.2.1 (f_102_7 hE ?_)
  unfold xVs at hQ
  cases hf : s.f with
  | nil =>
    rw [hf] at hQ
    have := hQ S cQ.refl
    rw [show xRow0 C s.H none = [] from rfl, xTell_nil] at this
    exact ⟨fun _ => ⟨trivial, this⟩, fun z => absurd rfl z⟩
  | cons g t =>
    rw [hf] at hQ f8 h4
    dsimp only at hQ
    have hl' : t.length + 1 ≤ 8 := f8
    have fr : cFs S x α (g :: t) := by rw [← hf]; exact h.2.2.1
    obtain ⟨⟨f1, f2, f3, f4, f5, -⟩, -⟩ := fr
    have s10 := h4.1.len h2
    have oFt := (h.1.1.fr (f := t.length) (by omega)).1
    have ea : (if (g :: t).length = 0 then 0 else x + 28 + 5 * ((g :: t).length - 1)) = x + 28 + 5 * t.length := if_neg (Nat.succ_ne_zero _)
    rw [ea]
    refine ⟨fun z => absurd z (by omega), fun _ => ⟨fun z => ⟨trivial, ?_⟩, fun z => ⟨by rw [oFt.1]; rfl, fun y => ?_, fun y => ⟨trivial, ?_⟩⟩⟩⟩
    · rw [if_pos z, show xRow0 C s.H none = [] from rfl, xTell_nil] at hQ
      exact hQ S cQ.refl
    · obtain ⟨p, hp, rfl⟩ := i_nI z
      rw [if_neg z, nI_clamp hp] at hQ
      rw [f3] at y
      have lt : p < g.2.2.1.length := (nI_ltI hp (by omega)).mp y
      rw [List.getElem?_eq_getElem lt] at hQ
      refine ⟨by decide, oFt.1, by decide, 0, 0, Nat.zero_le _, Nat.zero_le _, s_fromTop hsp oFt (i := p) (n := g.2.2.1.length) lt (by omega) f3 (f_102_32 hE ⟨by decide, k0, by decide, 0, 0, Nat.zero_le _, Nat.zero_le _, ?_⟩)⟩
      have hv := cStk.at g.2.2.1 p lt f5
      rw [List.getD_eq_getElem?_getD, List.getElem?_eq_getElem lt] at hv
      refine c_107 hsp h.1 h.2.1 h1 (o := some g.2.2.1[p]) (fun v e => ?_) hv (fun T q => f_102_36 hE ⟨trivial, hQ T q⟩)
      cases e
      exact h4.1.2.2.2.1 _ (List.getElem_mem lt)
    · obtain ⟨p, hp, rfl⟩ := i_nI z
      rw [if_neg z, nI_clamp hp] at hQ
      rw [f3] at y
      have lt : ¬ p < g.2.2.1.length := fun b => y (nI_lt b (by omega))
      rw [List.getElem?_eq_none (by omega), show xRow0 C s.H none = [] from rfl, xTell_nil] at hQ
      exact hQ S cQ.refl
/-- local -/
theorem c_103 (hsp : ox_mono sp) {w u : Int32} (h : cR S x α C nc s) (hw : xWf C nc K s) (hQ : ∀ T, cQ x S T → Q (some (.inl (xTell (xRow0 C s.H (xVl s u)) w))) T) : ox_M sp (d + 9) 103 [.inr (.inr x), .inl u, .inl w] mr sr S Q := by
  have hE : ox_mono (ox_M sp (d + 8)) := ox_M_mono hsp _
  have k0 : S.K x = 13 := h.1.1.obj (o := 0) (by decide)
  have r66 : S.R 66 x = x + 11 := h.1.1.ref (o := 0) (by decide)
  have k7 : S.K (x + 11) = 7 := h.1.1.obj (by decide)
  obtain ⟨h1, h2, h3, ⟨f8, h4⟩, -⟩ := id hw
  refine f_103 hsp ⟨by rw [k0]; rfl, by decide, by rw [r66]; exact k7, by decide, 0, 0, Nat.zero_le _, Nat.zero_le _, ?_⟩
  rw [r66]
  refine c_44 hsp h.1 f8 h.2.2.2.2.1 (f_103_7 hE ?_)
  unfold xVl at hQ
  cases hf : s.f with
  | nil =>
    rw [hf] at hQ
    have := hQ S cQ.refl
    rw [show xRow0 C s.H none = [] from rfl, xTell_nil] at this
    exact ⟨fun z => absurd rfl z, fun _ => f_103_26 hE ⟨trivial, this⟩⟩
  | cons g t =>
    rw [hf] at hQ f8 h4
    dsimp only at hQ
    have hl' : t.length + 1 ≤ 8 := f8
    have fr : cFs S x α (g :: t) := by rw [← hf]; exact h.2.2.1
    obtain ⟨⟨f1, f2, f3, f4, f5, f6, -⟩, -⟩ := fr
    have oFt := (h.1.1.fr (f := t.length) (by omega)).1
    have ea : (if (g :: t).length = 0 then 0 else x + 28 + 5 * ((g :: t).length - 1)) = x + 28 + 5 * t.length := if_neg (Nat.succ_ne_zero _)
    rw [ea]
    refine ⟨fun _ => ⟨by decide, oFt.1, by decide, 0, 0, Nat.zero_le _, Nat.zero_le _, s_localAt hsp oFt (fun z => f_103_22 hE ⟨by decide, k0, by decide, 0, 0, Nat.zero_le _, Nat.zero_le _, ?_⟩) (fun k hk z => f_103_22 hE ⟨by decide, k0, by decide, 0, 0, Nat.zero_le _, Nat.zero_le _, ?_⟩)⟩, fun z => absurd z (by omega)⟩
    · have e0 : (if u < 0 then none else if u < 8 then g.2.2.2.1 u.toNatClampNeg else none) = (none : Option Int) := by
        by_cases y : u < 0
        · rw [if_pos y]
        · obtain ⟨p, hp, rfl⟩ := i_nI y
          rw [if_neg y]
          by_cases b : nI p < 8
          · have := (nI_ltI (b := 8) hp (by decide)).mp b
            exact absurd rfl (z p this)
          · rw [if_neg b]
      rw [e0] at hQ
      exact c_107 hsp h.1 h.2.1 h1 (o := none) (fun v e => by cases e) rfl (fun T q => f_103_26 hE ⟨trivial, hQ T q⟩)
    · subst z
      rw [if_neg (nI_pos (by omega)), if_pos (show nI k < 8 from nI_lt (b := 8) hk (by decide)), nI_clamp (by omega)] at hQ
      refine c_107 hsp h.1 h.2.1 h1 (o := g.2.2.2.1 k) (fun v e => (h4.1.2.2.2.2 k v e).2) ?_ (fun T q => f_103_26 hE ⟨trivial, hQ T q⟩)
      have g6 := f6 k hk
      cases y : g.2.2.2.1 k with
      | none => rw [y] at g6; exact g6
      | some v => rw [y] at g6; exact g6
theorem xGetL_mem {w : Int64} {v : Int} : ∀ G : List (Nat × Int), xGetL w G = some v → ∃ g ∈ G, g.2 = v
  | [], e => by cases e
  | g :: l, e => by
    unfold xGetL at e
    by_cases z : lN g.1 = w
    · rw [if_pos z] at e
      exact ⟨g, List.mem_cons_self, Option.some.inj e⟩
    · rw [if_neg z] at e
      obtain ⟨g', h1, h2⟩ := xGetL_mem l e
      exact ⟨g', List.mem_cons_of_mem _ h1, h2⟩
/-- global -/
theorem c_104 (hsp : ox_mono sp) {w : Int32} {j : Int64} (h : cR S x α C nc s) (hw : xWf C nc K s) (hQ : ∀ T, cQ x S T → Q (some (.inl (xTell (xRow0 C s.H (xGetL (wzL j 8 0) s.G)) w))) T) : ox_M sp (d + 9) 104 [.inr (.inr x), .inr (.inl j), .inl w] mr sr S Q := by
  have hE : ox_mono (ox_M sp (d + 8)) := ox_M_mono hsp _
  have k0 : S.K x = 13 := h.1.1.obj (o := 0) (by decide)
  have r66 : S.R 66 x = x + 11 := h.1.1.ref (o := 0) (by decide)
  have k7 : S.K (x + 11) = 7 := h.1.1.obj (by decide)
  obtain ⟨h1, h2, h3, -⟩ := id hw
  refine f_104 hsp ⟨by rw [k0]; rfl, by decide, by decide, 0, 0, Nat.zero_le _, Nat.zero_le _, c_106 hsp (f_104_9 hE ⟨by decide, by rw [r66]; exact k7, by decide, 0, 0, Nat.zero_le _, Nat.zero_le _, ?_⟩)⟩
  rw [r66]
  refine c_45 hsp h.1 h.2.2.2.1 h3.1 (fun e => f_104_12 hE ⟨by decide, k0, by decide, 0, 0, Nat.zero_le _, Nat.zero_le _, ?_⟩) (fun v b e hv => f_104_12 hE ⟨by decide, k0, by decide, 0, 0, Nat.zero_le _, Nat.zero_le _, ?_⟩)
  · rw [e] at hQ
    exact c_107 hsp h.1 h.2.1 h1 (o := none) (fun v e => by cases e) rfl (fun T q => f_104_16 hE ⟨trivial, hQ T q⟩)
  · rw [e] at hQ
    refine c_107 hsp h.1 h.2.1 h1 (o := some v) (fun u e' => ?_) hv (fun T q => f_104_16 hE ⟨trivial, hQ T q⟩)
    cases e'
    obtain ⟨g, g1, g2⟩ := xGetL_mem _ e
    rw [← g2]
    exact (h3.2 g g1).2
end CVw
