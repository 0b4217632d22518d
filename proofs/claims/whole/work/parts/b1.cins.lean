/-! one instruction of the class: what it finds, what it gives -/
def xKd (H : xHp) (v : Int) : Nat := if v < 0 then 3 else if v ≤ 10 then 11 else match H v with
  | some (.inl _) => 8
  | some (.inr (.inl _)) => 10
  | some (.inr (.inr (.inl _))) => 9
  | some (.inr (.inr (.inr (.inl _)))) => 12
  | some (.inr (.inr (.inr (.inr _)))) => 5
  | none => 0
def xTg (H : xHp) (v : Int) : Int := if v < 0 then 10 else if v ≤ 2 then v else if v = 3 then 8 else if v ≤ 10 then 9 else match H v with
  | some (.inl _) => 3
  | some (.inr (.inl _)) => 4
  | some (.inr (.inr (.inl _))) => 5
  | some (.inr (.inr (.inr (.inl _)))) => 6
  | some (.inr (.inr (.inr (.inr _)))) => 7
  | none => 0
def cW0 (x a : Nat) : Prop := x + 24 ≤ a ∧ a ≤ x + 26
def cWf (x f a : Nat) : Prop := (x + 24 ≤ a ∧ a ≤ x + 26) ∨ (x + 28 + 5 * f ≤ a ∧ a ≤ x + 32 + 5 * f)
def cE (S : ox_St) (x : Nat) (α : Int → Nat) (C : Nat → xCd) (nc : Nat) (e : xEn) (q : Nat) (st : List Int) : Prop := cR S x α C nc (e.H, e.n, e.G, (e.c, q, st, e.L, e.b) :: e.t, 1, -1, 0)
def cX (S : ox_St) (x : Nat) (α : Int → Nat) (C : Nat → xCd) (nc : Nat) (e : xEn) (q : Nat) (st : List Int) (o : xOut) (r : Int32) : Prop := match o with
  | .inl k => r = nI k ∧ cE S x α C nc e q st
  | .inr (H', n', G', fs', none) => r = -1 ∧ cR S x α C nc (H', n', G', fs', 1, -1, 0)
  | .inr (H', n', G', fs', some v) => r = -1 ∧ cR S x α C nc (H', n', G', fs', 2, -1, v)
/-- what looking promises of an instruction's frame -/
def xEs1 (C : Nat → xCd) (nc K : Nat) (e : xEn) (st : List Int) : Prop := xEnOk C nc K e ∧ (∀ v ∈ st, xOk nc e.H v) ∧ st.length ≤ 10 ∧ e.b.length ≤ 4
section CV
variable {S S' : ox_St} {x : Nat} {α : Int → Nat} {C : Nat → xCd} {nc K : Nat} {H : xHp} {n v : Int} {a : Nat}
/-- kind and tag of a value -/
theorem cV (hB : cBs S x) (hp : cHp S x α C nc H) (hH : xHOk nc K H n) (hv : vC S x α v a) (ok : xOk nc H v) : S.K a = xKd H v ∧ S.I 6 a = Int32.ofInt (xTg H v) ∧ ox_isV (S.K a) = true := by
  obtain ⟨h1, h2, h3, h4⟩ := hv
  unfold xKd xTg
  rcases h4 with ⟨h4, rfl⟩ | ⟨h4, h5, h6, h7⟩ | ⟨rfl, rfl⟩ | ⟨h4, h5, rfl⟩ | ⟨h4, rfl⟩
  · rw [if_pos h4, if_pos h4]
    have hc : (-1 - v).toNat < nc := by
      rcases ok with z | z
      · omega
      · exact absurd (hH.low (by omega)) z
    obtain ⟨c1, c2, c3, c4, -⟩ := hp.2.1 _ hc
    rw [show (-1 - ((-1 - v).toNat : Int)) = v by omega] at c3 c4
    exact ⟨c3.1, c4, by rw [c3.1]; rfl⟩
  · rw [if_neg (by omega), if_pos (by omega), if_neg (by omega), if_pos h5]
    exact ⟨h6, h7, by rw [h6]; rfl⟩
  · have k := hB.1.obj (o := 17) (k := 11) (by decide)
    exact ⟨k, (hB.1.val (o := 17) (t := 8) (w := 0) (by decide)).1, by rw [k]; rfl⟩
  · rw [if_neg (by omega), if_pos (by omega), if_neg (by omega), if_neg (by omega), if_neg (by omega), if_pos h5]
    obtain ⟨w, hw⟩ : ∃ w : Nat, v = 4 + w := ⟨(v - 4).toNat, by omega⟩
    subst hw
    have hw7 : w < 7 := by omega
    have e : x + 64 + ((4 : Int) + w).toNat = x + (68 + w) := by omega
    rw [e]
    have key : ∀ w, w < 7 → cKt.contains (68 + w, 11) = true ∧ cVt.contains (68 + w, 9, (w : Int)) = true := by decide
    have k := hB.1.obj (key w hw7).1
    exact ⟨k, (hB.1.val (key w hw7).2).1, by rw [k]; rfl⟩
  · rcases ok with z | z
    · omega
    · rw [if_neg (by omega), if_neg (by omega), if_neg (by omega), if_neg (by omega), if_neg (by omega), if_neg (by omega)]
      cases y : H v with
      | none => exact absurd y z
      | some o =>
        have := (hp.1 v o y).2.2
        match o, this with
        | .inl N, ⟨t, w, c, r, g1, g2, g3, g4⟩ => exact ⟨g1.1, g3, by rw [g1.1]; rfl⟩
        | .inr (.inl q), ⟨t, g1, g2, _⟩ => exact ⟨g1.1, g2, by rw [g1.1]; rfl⟩
        | .inr (.inr (.inl q)), ⟨g1, g2, _⟩ => exact ⟨g1, g2, by rw [g1]; rfl⟩
        | .inr (.inr (.inr (.inl q))), ⟨g1, g2, _⟩ => exact ⟨g1, g2, by rw [g1]; rfl⟩
        | .inr (.inr (.inr (.inr c))), ⟨g1, g2, _⟩ => exact ⟨g1, g2, by rw [g1]; rfl⟩
theorem xKd_8 (hH : xHOk nc K H n) : xKd H v = 8 ↔ ∃ N, H v = some (.inl N) := by
  unfold xKd
  constructor
  · intro h
    split at h
    · cases h
    · split at h
      · cases h
      · split at h <;> first | exact ⟨_, by assumption⟩ | cases h
  · rintro ⟨N, h⟩
    have := (hH.2 v _ h).1
    rw [if_neg (by omega), if_neg (by omega), h]
theorem xKd_10 (hH : xHOk nc K H n) : xKd H v = 10 ↔ ∃ q, H v = some (.inr (.inl q)) := by
  unfold xKd
  constructor
  · intro h
    split at h
    · cases h
    · split at h
      · cases h
      · split at h <;> first | exact ⟨_, by assumption⟩ | cases h
  · rintro ⟨N, h⟩
    have := (hH.2 v _ h).1
    rw [if_neg (by omega), if_neg (by omega), h]
/-- numberOf -/
theorem c_num {sp : ox_E} {d mr sr : Nat} {Q : ox_Q} (hsp : ox_mono sp) (hB : cBs S x) (hp : cHp S x α C nc H) (hH : xHOk nc K H n) (hv : vC S x α v a) (ok : xOk nc H v) (hQ0 : xNum H v = none → Q (some (.inr (.inr 0))) S) (hQ1 : ∀ N b t w c r, xNum H v = some N → b ≠ 0 → b < S.n → ¬ cZ x b → oNm S b t w c r → nv w c r = N → tRw x S.n t → Q (some (.inr (.inr b))) S) : ox_M sp (d + 1) 56 [.inr (.inr (x + 11)), .inr (.inr a)] mr sr S Q := by
  obtain ⟨k1, k2, k3⟩ := cV hB hp hH hv ok
  obtain ⟨hC, hx, h0, hn, -⟩ := hB
  have z1 : (1 : Int32) = Int32.ofInt 1 := rfl
  have z2 : (2 : Int32) = Int32.ofInt 2 := rfl
  have tg : 0 ≤ xTg H v ∧ xTg H v ≤ 10 := by
    unfold xTg
    repeat' split
    all_goals omega
  have inj : ∀ y : Int, 0 ≤ y → y ≤ 10 → Int32.ofInt (xTg H v) = Int32.ofInt y → xTg H v = y := fun y y1 y2 e => by
    have := congrArg Int32.toInt e
    rw [Int32.toInt_ofInt_of_le (by omega) (by omega), Int32.toInt_ofInt_of_le (by omega) (by omega)] at this
    exact this
  have h12 : ∀ y, (y = 1 ∨ y = 2) → xTg H v = y → v = y := fun y hy e => by
    unfold xTg at e
    repeat' split at e
    all_goals omega
  refine s_56 hsp hC k3 (fun e8 => ?_) (fun e8 t1 => ?_) (fun e8 t2 => ?_) (fun e8 t1 t2 => ?_)
  · rw [k1] at e8
    obtain ⟨N, hN⟩ := (xKd_8 hH).mp e8
    obtain ⟨h16, -⟩ := hH.2 v _ hN
    obtain ⟨g0, g1, t, w, c, r, g2, g3, g4, g5⟩ := hp.1 v _ hN
    have ha : a = α v := by
      obtain ⟨-, -, -, q⟩ := hv
      rcases q with q | q | q | q | q <;> first | exact q.2 | omega
    rw [ha]
    refine hQ1 N (α v) t w c r ?_ (by omega) g1 (fun z => by unfold cZ at z; omega) g2 g3 g5
    unfold xNum
    rw [if_neg (by omega), if_neg (by omega), hN]
  · rw [k2, z1] at t1
    have := h12 1 (Or.inl rfl) (inj 1 (by decide) (by decide) t1)
    subst this
    exact hQ1 0 (x + 20) (x + 19) _ 0 0 rfl (by omega) (by omega) (fun z => by unfold cZ at z; omega) hC.zero rfl ⟨by omega, Or.inl rfl⟩
  · rw [k2, z2] at t2
    have := h12 2 (Or.inr rfl) (inj 2 (by decide) (by decide) t2)
    subst this
    exact hQ1 1 (x + 22) (x + 21) _ 1 0 rfl (by omega) (by omega) (fun z => by unfold cZ at z; omega) hC.one rfl ⟨by omega, Or.inr (Or.inl rfl)⟩
  · refine hQ0 ?_
    unfold xNum
    have n1 : v ≠ 1 := fun z => t1 (by rw [k2, z]; rfl)
    have n2 : v ≠ 2 := fun z => t2 (by rw [k2, z]; rfl)
    rw [if_neg n1, if_neg n2]
    cases y : H v with
    | none => rfl
    | some o =>
      match o, y with
      | .inl N, y => exact absurd (k1.trans ((xKd_8 hH).mpr ⟨N, y⟩)) e8
      | .inr _, _ => rfl
end CV
section CE
variable {S S' U : ox_St} {x : Nat} {α α' : Int → Nat} {C : Nat → xCd} {nc K : Nat} {e : xEn} {q : Nat} {st r : List Int} {v : Int} {f : Nat}
theorem cWf_Z (hf : f ≤ 7) : ∀ a, cWf x f a → cZ x a := fun a h => by unfold cWf at h; unfold cZ; omega
theorem cW0_Z : ∀ a, cW0 x a → cZ x a := fun a h => Or.inl h
theorem cW0_f : ∀ a, cW0 x a → cWf x f a := fun a h => Or.inl h
/-- a stack's row, as far as it is used -/
theorem cStk.row {t : Nat} (hI : cI x (fun a => cZ x a) S S') : ∀ (st : List Int), (∀ j, j < st.length → S'.rR t j = S.rR t j) → (∀ v ∈ st, α' v = α v) → cStk S x α t st → cStk S' x α' t st
  | [], _, _, _ => trivial
  | v :: r, hr, hα, h => ⟨by rw [hr r.length (Nat.lt_succ_self _)]; exact h.1.next hI (hα v List.mem_cons_self), cStk.row hI r (fun j hj => hr j (Nat.lt_succ_of_lt hj)) (fun u hu => hα u (List.mem_cons_of_mem _ hu)) h.2⟩
theorem cStk.drop {t : Nat} : ∀ (k : Nat) (st : List Int), cStk S x α t st → cStk S x α t (st.drop k)
  | 0, _, h => h
  | _ + 1, [], h => h
  | k + 1, _ :: r, h => cStk.drop k r h.2
theorem cStk.at {t : Nat} : ∀ (st : List Int) (i : Nat), i < st.length → cStk S x α t st → vC S x α (st.getD i 0) (S.rR t (st.length - 1 - i))
  | v :: r, 0, _, h => h.1
  | v :: r, i + 1, hi, h => by
    have := cStk.at r i (Nat.lt_of_succ_lt_succ hi) h.2
    simp only [List.length_cons, List.getD_cons_succ]
    rw [show r.length + 1 - 1 - (i + 1) = r.length - 1 - i by omega]
    exact this
/-- the frame's fields but place and stack -/
def cFk (S S' : ox_St) (F : Nat) : Prop := S'.R 18 F = S.R 18 F ∧ S'.I 21 F = S.I 21 F ∧ (∀ j, S'.rR (F + 1) j = S.rR (F + 1) j) ∧ (∀ j, S'.rI (F + 3) j = S.rI (F + 3) j) ∧ ∀ j, S'.rI (F + 4) j = S.rI (F + 4) j
/-- all but the frame -/
theorem cE.rest (h : cE S x α C nc e q st) (hx : xEs1 C nc K e st) (hI : cI x (cWf x e.t.length) S S') {H' : xHp} {n' : Int} {f' : xFr} (hp : cHp S' x α' C nc H') (hα : ∀ u, u < e.n → α' u = α u) (hf : cFr S' x α' e.t.length f') : cR S' x α' C nc (H', n', e.G, f' :: e.t, 1, -1, 0) := by
  obtain ⟨b, -, ⟨-, fs⟩, g, m1, m2, m3, m4, m5⟩ := h
  obtain ⟨⟨h1, h2, h3, h4, h5, h6, h7⟩, -⟩ := hx
  have hZ := cWf_Z (x := x) h5
  have hn : x + 119 ≤ S.n := b.2.2.2.1
  have nW : ∀ a, x ≤ a → a < x + 24 → ¬ cWf x e.t.length a := fun a _ _ z => by unfold cWf at z; omega
  obtain ⟨a1, a2, -⟩ := hI.at (a := x + 11) (by omega) (nW _ (by omega) (by omega))
  refine ⟨b.next hI hZ, hp, ⟨hf, ?_⟩, ⟨(a1 _).trans g.1, fun i hi => ?_⟩, (a1 _).trans m1, (a1 _).trans m2, (a1 _).trans m3, fun z => (by cases z), fun _ => (a2 _).trans (m5 (show (1 : Nat) ≠ 2 by decide))⟩
  · have fs' : cFs S x α e.t := fs
    have key : ∀ (t : List xFr), t.length ≤ e.t.length → (∀ g ∈ t, xFOk C nc e.H 1 g) → cFs S x α t → cFs S' x α' t := by
      intro t
      induction t with
      | nil => exact fun _ _ _ => trivial
      | cons g t ih =>
        intro hl hg hc
        have hl' : t.length + 1 ≤ e.t.length := hl
        refine ⟨hc.1.next hI (by omega) (fun a z1 z2 z => by unfold cWf at z; omega) (fun u hu => hα u ?_), ih (by omega) (fun g hg' => hg g (List.mem_cons_of_mem _ hg')) hc.2⟩
        obtain ⟨-, -, -, y1, y2⟩ := hg g List.mem_cons_self
        have := h1.1
        rcases hu with z | z | ⟨i, z⟩
        · omega
        · exact h1.lt (y1 u z)
        · exact h1.lt (y2 i u z).2
    exact key e.t (Nat.le_refl _) h7 fs'
  · obtain ⟨g1, g2⟩ := g.2 i hi
    have i1 := (hI.at (a := x + 13) (by omega) (nW _ (by omega) (by omega))).2.2.2.2.2.1 i
    have i2 := (hI.at (a := x + 14) (by omega) (nW _ (by omega) (by omega))).2.2.2.2.1 i
    refine ⟨i1.trans g1, ?_⟩
    rw [i2]
    refine g2.next hI (hα _ (h1.lt ?_))
    have hi' : i < e.G.length := hi
    show xOk nc e.H (e.G.getD i (0, 0)).2
    rw [List.getD_eq_getElem?_getD, List.getElem?_eq_getElem hi']
    exact (h3.2 _ (List.getElem_mem hi')).2
/-- the frame goes on at q' with the stack st' -/
theorem cE.fr (h : cE S x α C nc e q st) (hx : xEs1 C nc K e st) (hI : cI x (cWf x e.t.length) S S') (hα : ∀ u, u < e.n → α' u = α u) (hk : cFk S S' (x + 28 + 5 * e.t.length)) {q' : Nat} {st' : List Int} (e19 : S'.I 19 (x + 28 + 5 * e.t.length) = nI q') (e20 : S'.I 20 (x + 28 + 5 * e.t.length) = nI st'.length) (hs : cStk S' x α' (x + 28 + 5 * e.t.length + 2) st') : cFr S' x α' e.t.length (e.c, q', st', e.L, e.b) := by
  obtain ⟨b, -, ⟨⟨f1, f2, f3, f4, f5, f6, f7⟩, -⟩, -⟩ := h
  obtain ⟨⟨h1, h2, h3, h4, h5, h6, h7⟩, -⟩ := hx
  obtain ⟨k1, k2, k3, k4, k5⟩ := hk
  have h16 := h1.1
  refine ⟨by rw [k1, f1]; exact (hα _ (by show (-1 - (e.c : Int)) < e.n; omega)).symm, e19, e20, k2.trans f4, hs, fun i hi => ?_, ?_⟩
  · have g : (match e.L i with
      | none => S.rR (x + 28 + 5 * e.t.length + 1) i = 0
      | some v => vC S x α v (S.rR (x + 28 + 5 * e.t.length + 1) i)) := f6 i hi
    show (match e.L i with
      | none => S'.rR (x + 28 + 5 * e.t.length + 1) i = 0
      | some v => vC S' x α' v (S'.rR (x + 28 + 5 * e.t.length + 1) i))
    rw [k3 i]
    cases z : e.L i with
    | none => rw [z] at g; exact g
    | some v => rw [z] at g; exact vC.next g hI (hα v (h1.lt (h6 i v z).2))
  · have key : ∀ (b : List (Nat × Nat)), cBk S (x + 28 + 5 * e.t.length) b → cBk S' (x + 28 + 5 * e.t.length) b := by
      intro b
      induction b with
      | nil => exact fun _ => trivial
      | cons g b ih => exact fun z => ⟨by rw [k4]; exact z.1, by rw [k5]; exact z.2.1, ih z.2.2⟩
    exact key e.b f7
/-- no new object -/
theorem cE.go (h : cE S x α C nc e q st) (hx : xEs1 C nc K e st) (hI : cI x (cWf x e.t.length) S S') (hk : cFk S S' (x + 28 + 5 * e.t.length)) {q' : Nat} {st' : List Int} (e19 : S'.I 19 (x + 28 + 5 * e.t.length) = nI q') (e20 : S'.I 20 (x + 28 + 5 * e.t.length) = nI st'.length) (hs : cStk S' x α (x + 28 + 5 * e.t.length + 2) st') : cX S' x α C nc e q st (xGo e q' st') (-1) :=
  ⟨rfl, h.rest hx hI (h.2.1.next (K := K) hI (cWf_Z hx.1.2.2.2.2.1)) (fun _ _ => rfl) (h.fr hx hI (fun _ _ => rfl) hk e19 e20 hs)⟩
/-- all the same, whatever was made and thrown away -/
theorem cE.same (h : cE S x α C nc e q st) (hx : xEs1 C nc K e st) (hI : cI x (cW0 x) S S') : cE S' x α C nc e q st := by
  have hn : x + 119 ≤ S.n := h.1.2.2.2.1
  have h5 := hx.1.2.2.2.2.1
  have nW : ∀ a, x + 28 ≤ a → a < x + 68 → ¬ cW0 x a := fun a _ _ z => by unfold cW0 at z; omega
  have hI' := hI.mono (W' := cWf x e.t.length) cW0_f
  obtain ⟨b, -, ⟨⟨f1, f2, f3, f4, f5, f6, f7⟩, -⟩, -⟩ := id h
  obtain ⟨a1, a2, -⟩ := hI.at (a := x + 28 + 5 * e.t.length) (by omega) (nW _ (by omega) (by omega))
  refine h.rest hx hI' (h.2.1.next (K := K) hI' (cWf_Z h5)) (fun _ _ => rfl) (h.fr hx hI' (fun _ _ => rfl) ⟨a2 _, a1 _, ?_, ?_, ?_⟩ ((a1 _).trans f2) ((a1 _).trans f3) (cStk.next hI (by omega) (nW _ (by omega) (by omega)) _ (fun _ _ => rfl) f5))
  · exact (hI.at (by omega) (nW _ (by omega) (by omega))).2.2.2.2.1
  · exact (hI.at (by omega) (nW _ (by omega) (by omega))).2.2.2.1
  · exact (hI.at (by omega) (nW _ (by omega) (by omega))).2.2.2.1
/-- a new object's number leads to its address -/
def upA (α : Int → Nat) (n : Int) (a : Nat) : Int → Nat := fun v => if v = n then a else α v
theorem cHp.mk {W : Nat → Prop} {H : xHp} {n : Int} {a : Nat} {o : xOb} (h : cHp S x α C nc H) (hC : xCOk C nc H) (hH : xHOk nc K H n) (hI : cI x W S S') (hW : ∀ a, W a → cZ x a) (ha : S.n ≤ a) (ho : cO S' x (upA α n a) C n o) (hr : xObOk nc K H o) : cHp S' x (upA α n a) C nc (xNew H n o) := by
  have h16 := hH.1
  have hlt : ∀ u, u < n → upA α n a u = α u := fun u hu => if_neg (by omega)
  have hself : upA α n a n = a := if_pos rfl
  have old : ∀ u, cDm nc (xNew H n o) u → u = n ∨ (u < n ∧ cDm nc H u) := fun u hu => by
    rcases hu with z | z
    · exact Or.inr ⟨by omega, Or.inl z⟩
    · by_cases y : u = n
      · exact Or.inl y
      · have z' : H u ≠ none := fun q => z ((if_neg y).trans q)
        exact Or.inr ⟨hH.lt (nc := nc) (Or.inr z'), Or.inr z'⟩
  have addr : ∀ u, cDm nc H u → α u < S.n := fun u hu => by
    rcases hu with z | z
    · have := (h.2.1 (-1 - u).toNat (by omega)).2.1
      rw [show (-1 - ((-1 - u).toNat : Int)) = u by omega] at this
      exact this
    · cases y : H u with
      | none => exact absurd y z
      | some o' => exact (h.1 u o' y).2.1
  refine ⟨fun v o' e => ?_, fun c hc => ?_, fun u v hu hv huv => ?_, fun c hc => (hlt _ (by omega)).trans (h.2.2.2 c hc)⟩
  · have e' : (if v = n then some o else H v) = some o' := e
    by_cases z : v = n
    · rw [if_pos z] at e'
      cases e'
      rw [z]
      exact ho
    · rw [if_neg z] at e'
      obtain ⟨w1, w2, w3⟩ := hH.2 v o' e'
      refine (h.1 v o' e').next hI hW (hlt v w2) (fun u hu => hlt u ?_) (fun c => hlt _ (by omega))
      match o', w3, hu with
      | .inl _, _, hu => cases hu
      | .inr (.inl q), w3, hu => exact hH.lt (w3.2.2.2 u hu)
      | .inr (.inr (.inl q)), _, hu => cases hu
      | .inr (.inr (.inr (.inl q))), w3, hu =>
        rw [List.mem_singleton.mp hu]
        exact hH.lt (nc := nc) (Or.inr (xLen_ne w3.1))
      | .inr (.inr (.inr (.inr c))), _, hu => cases hu
  · exact (h.2.1 c hc).next hI hW (hlt _ (by omega)) (fun u hu => hlt u (hH.lt ((hC c hc).2.2.2.2.1 u hu)))
  · rcases old u hu with z1 | ⟨z1, y1⟩
    · rcases old v hv with z2 | ⟨z2, y2⟩
      · rw [z1, z2]
      · rw [z1, hself, hlt v z2] at huv
        have := addr v y2
        omega
    · rcases old v hv with z2 | ⟨z2, y2⟩
      · rw [z2, hself, hlt u z1] at huv
        have := addr u y1
        omega
      · rw [hlt u z1, hlt v z2] at huv
        exact h.2.2.1 u v y1 y2 huv
/-- a new object on the stack -/
theorem cE.mk (h : cE S x α C nc e q st) (hx : xEs1 C nc K e st) (hI : cI x (cWf x e.t.length) S S') (hk : cFk S S' (x + 28 + 5 * e.t.length)) {q' a : Nat} {r : List Int} {o : xOb} (ha : S.n ≤ a) (ho : cO S' x (upA α e.n a) C e.n o) (hr : xObOk nc K e.H o) (e19 : S'.I 19 (x + 28 + 5 * e.t.length) = nI q') (e20 : S'.I 20 (x + 28 + 5 * e.t.length) = nI (r.length + 1)) (hs : cStk S' x (upA α e.n a) (x + 28 + 5 * e.t.length + 2) (e.n :: r)) : cX S' x (upA α e.n a) C nc e q st (xMk e q' r o) (-1) := by
  have hlt : ∀ u, u < e.n → upA α e.n a u = α u := fun u hu => if_neg (by omega)
  exact ⟨rfl, h.rest hx hI (h.2.1.mk hx.1.2.1 hx.1.1 hI (cWf_Z hx.1.2.2.2.2.1) ha ho hr) hlt (h.fr hx hI hlt hk e19 e20 hs)⟩
end CE
