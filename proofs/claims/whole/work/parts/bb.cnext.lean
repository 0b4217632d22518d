/-! the class's instructions: a walker goes on -/
section CW
variable {d mr sr : Nat} {S S' T : ox_St} {Q : ox_Q} {x : Nat} {α : Int → Nat} {C : Nat → xCd} {nc K : Nat} {e : xEn} {q : Nat} {st r : List Int} {v u : Int} {a : Nat} {W : Nat → Prop}
theorem cI.sJw (h : cI x W S S') {G a : Nat} {v : Int64} (ha : S.n ≤ a ∨ W a) : cI x W S (S'.sJ G a v) :=
  ⟨h.1.trans oKl_sJ, h.2.1.trans (oAg_sJ (fun z => ha.elim (fun y => by omega) z.2)), h.2.2⟩
theorem cBs.nextW (h : cBs S x) (hI : cI x W S S') (hW : ∀ a, W a → x + 119 ≤ a) : cBs S' x := by
  have hI2 : cI x (fun a => x + 119 ≤ a) S S' := hI.mono hW
  obtain ⟨⟨g1, g2, g3, g4, g5, g6, g7, g8, g9⟩, h2, h3, h4, ⟨h5, h6, h7, h8⟩⟩ := h
  have at' : ∀ a, a < x + 119 → (∀ F, S'.I F a = S.I F a) ∧ (∀ F, S'.R F a = S.R F a) ∧ (∀ F, S'.J F a = S.J F a) ∧ (∀ j, S'.rI a j = S.rI a j) ∧ (∀ j, S'.rR a j = S.rR a j) ∧ (∀ j, S'.rJ a j = S.rJ a j) ∧ S'.K a = S.K a ∧ S'.len a = S.len a := fun a ha => hI2.at (by omega) (by omega)
  refine ⟨⟨fun q hq => ?_, fun q hq => ?_, fun q hq => ?_, fun q hq => ?_, fun f hf => ⟨?_, ?_⟩, fun w hw => ?_, ?_, ?_, ?_⟩, h2, (at' 0 (by omega)).2.2.2.2.2.2.1.trans h3, Nat.le_trans h4 hI.1.1, ?_⟩
  · obtain ⟨-, b6⟩ := cRt_ok q hq
    rw [(at' _ (by omega)).2.1]
    exact g1 q hq
  · have b := cKt_ok q hq
    rw [(at' _ (by omega)).2.2.2.2.2.2.1]
    exact g2 q hq
  · have b := cLt_ok q hq
    rw [(at' _ (by omega)).2.2.2.2.2.2.1, (at' _ (by omega)).2.2.2.2.2.2.2]
    exact g3 q hq
  · have b := cVt_ok q hq
    rw [(at' _ (by omega)).1, (at' _ (by omega)).1]
    exact g4 q hq
  · obtain ⟨k1, ⟨a1, a2, a3⟩, ⟨b1, b2, b3⟩, ⟨c1, c2, c3⟩, d1, d2, d3⟩ := (g5 f hf).1
    have kk : ∀ j, j < 5 → S'.K (x + 28 + 5 * f + j) = S.K (x + 28 + 5 * f + j) ∧ S'.len (x + 28 + 5 * f + j) = S.len (x + 28 + 5 * f + j) := fun j hj => (at' _ (by omega)).2.2.2.2.2.2
    have rr : ∀ F, S'.R F (x + 28 + 5 * f) = S.R F (x + 28 + 5 * f) := (at' _ (by omega)).2.1
    refine ⟨((kk 0 (by omega)).1).trans k1, ⟨(rr 13).trans a1, ((kk 1 (by omega)).1).trans a2, ((kk 1 (by omega)).2).trans a3⟩, ⟨(rr 14).trans b1, ((kk 2 (by omega)).1).trans b2, ((kk 2 (by omega)).2).trans b3⟩, ⟨(rr 15).trans c1, ((kk 3 (by omega)).1).trans c2, ((kk 3 (by omega)).2).trans c3⟩, (rr 16).trans d1, ((kk 4 (by omega)).1).trans d2, ((kk 4 (by omega)).2).trans d3⟩
  · rw [(at' _ (by omega)).2.2.2.2.1]; exact (g5 f hf).2
  · rw [(at' _ (by omega)).2.2.2.2.1]; exact g6 w hw
  · rw [(at' _ (by omega)).1]; exact g7
  · rw [(at' _ (by omega)).1]; exact g8
  · rw [(at' _ (by omega)).2.2.2.1]; exact g9
  · have e0 : S'.R 143 0 = S.R 143 0 := (at' 0 (by omega)).2.1 143
    obtain ⟨-, -, -, -, -, e6, e7, e8⟩ := at' (S.R 143 0) (by omega)
    unfold cSn
    rw [e0, e7, e8]
    exact ⟨h5, h6, h7, fun i hi => (e6 i).trans (h8 i hi)⟩
theorem oNm.nextW {a t : Nat} {w : Nat → Nat} {c : Nat} {r : Int32} (h : oNm S a t w c r) (hI : cI x W S S') (ha : a < S.n) (hb : ¬ W a) (ht : t < S.n) (htW : ¬ W t) : oNm S' a t w c r := h.next hI ha hb ht htW
/-- the heap, when one walker goes on -/
theorem cHp.wk {H : xHp} {n o : Int} {k k' : Nat} (h : cHp S x α C nc H) (hH : xHOk nc K H n) (hq : H v = some (.inr (.inr (.inr (.inl (o, k)))))) (hI : cI x (fun a => a = α v) S S') (hJ : S'.J 59 (α v) = lN k') : cHp S' x α C nc (xNew H v (.inr (.inr (.inr (.inl (o, k')))))) := by
  obtain ⟨w1, w2, w3, w4, w5, w6⟩ := h.1 v _ hq
  have hn := hI.1.1
  have kv : S.K (α v) = 12 := w3
  have row : ∀ t, S.K t ≠ 12 → ¬ t = α v := fun t ht z => ht (by rw [z]; exact kv)
  have vn : ∀ {u b}, vC S x α u b → vC S' x α u b := fun hv => hv.next hI rfl
  have dm : ∀ u, cDm nc (xNew H v (.inr (.inr (.inr (.inl (o, k')))))) u → cDm nc H u := fun u hu => by
    rcases hu with z | z
    · exact Or.inl z
    · by_cases y : u = v
      · exact Or.inr (by rw [y, hq]; exact fun m => by cases m)
      · exact Or.inr (fun m => z ((if_neg y).trans m))
  refine ⟨fun u ob hu => ?_, fun c hc => ?_, fun u1 u2 h1 h2 => h.2.2.1 u1 u2 (dm u1 h1) (dm u2 h2), h.2.2.2⟩
  · have hu' : (if u = v then some (.inr (.inr (.inr (.inl (o, k'))))) else H u) = some ob := hu
    by_cases y : u = v
    · rw [if_pos y] at hu'
      cases hu'
      rw [y]
      have c24 : α v < x + 24 ∨ (x + 26 < α v ∧ α v < x + 76) ∨ x + 119 ≤ α v := by omega
      refine ⟨w1, by omega, (hI.1.2 _ w2).1.trans kv, ((hI.2.2 _ w2 c24).2 6 (Or.inl rfl)).trans w4, ?_, hJ⟩
      rw [(hI.2.2 _ w2 c24).1 58 (by decide) (by decide) (by decide)]
      exact vn w5
    · rw [if_neg y] at hu'
      obtain ⟨g1, g2, g3⟩ := h.1 u ob hu'
      have ne : ¬ α u = α v := fun m => y (h.2.2.1 u v (Or.inr (by rw [hu']; exact fun m => by cases m)) (Or.inr (by rw [hq]; exact fun m => by cases m)) m)
      obtain ⟨a1, a2, a3, a4, a5, a6, a7, a8⟩ := hI.at g2 ne
      refine ⟨g1, by omega, ?_⟩
      match ob, g3 with
      | .inl N, ⟨t, w, c, r, m1, m2, m3, m4⟩ => exact ⟨t, w, c, r, m1.next hI g2 ne m4.1 (row t (by rw [m1.2.2.1.1]; decide)), m2, (a1 _).trans m3, m4.mono hn⟩
      | .inr (.inl p), ⟨t, ⟨t1, t2, t3, t4, t5⟩, m2, m3, m4, m5⟩ =>
        obtain ⟨b1, b2, b3, b4, b5, b6, b7, b8⟩ := hI.at m4.1 (row t (by rw [t3]; decide))
        exact ⟨t, ⟨a7.trans t1, (a2 _).trans t2, b7.trans t3, b8.trans t4, t5⟩, (a1 _).trans m2, (a1 _).trans m3, m4.mono hn, fun i hi => by rw [b5]; exact vn (m5 i hi)⟩
      | .inr (.inr (.inl p)), ⟨m1, m2, m3, m4, m5⟩ => exact ⟨a7.trans m1, (a1 _).trans m2, by rw [a1]; exact m3, by rw [a1]; exact m4, by rw [a1]; exact m5⟩
      | .inr (.inr (.inr (.inl p))), ⟨m1, m2, m3, m4⟩ => exact ⟨a7.trans m1, (a1 _).trans m2, by rw [a2]; exact vn m3, (a3 _).trans m4⟩
      | .inr (.inr (.inr (.inr c))), ⟨m1, m2, m3, m4⟩ => exact ⟨a7.trans m1, (a1 _).trans m2, by rw [a2]; exact m3, (a1 _).trans m4⟩
  · obtain ⟨h1, h2, ⟨s1, ⟨s2, s3, s4⟩, ⟨s5, s6, s7⟩, ⟨s8, s9⟩, ⟨s10, s11⟩, s12⟩, h4, ⟨r1, r2, r3⟩, h6, h7⟩ := h.2.1 c hc
    obtain ⟨a1, a2, a3, a4, a5, a6, a7, a8⟩ := hI.at h2 (row _ (by rw [s1]; decide))
    obtain ⟨-, -, -, b4, -, -, b7, b8⟩ := hI.at r1.1 (row _ (by rw [s5]; decide))
    obtain ⟨-, -, -, -, d5, -, d7, d8⟩ := hI.at r2.1 (row _ (by rw [s8]; decide))
    obtain ⟨-, -, -, -, -, e6, e7, e8⟩ := hI.at r3.1 (row _ (by rw [s10]; decide))
    unfold cCd cSh
    rw [a7, a1, a1, a1, a1, a2, a2, a2, b7, b8, d7, d8, e7, e8]
    exact ⟨h1, by omega, ⟨s1, ⟨s2, s3, s4⟩, ⟨s5, s6, fun p hp => (b4 p).trans (s7 p hp)⟩, ⟨s8, s9⟩, ⟨s10, s11⟩, s12⟩, h4, ⟨r1.mono hn, r2.mono hn, r3.mono hn⟩, fun i hi => by rw [d5]; exact vn (h6 i hi), fun i hi => by rw [e6]; exact h7 i hi⟩
/-- what an instruction finds, with other objects -/
def xEn.wH (e : xEn) (H : xHp) : xEn := (H, e.n, e.G, e.c, e.L, e.b, e.t)
theorem cE.wk {o : Int} {k k' : Nat} (h : cE S x α C nc e q st) (hx : xEs1 C nc K e st) (hq : e.H v = some (.inr (.inr (.inr (.inl (o, k)))))) (hI : cI x (fun a => a = α v) S S') (hJ : S'.J 59 (α v) = lN k') : cE S' x α C nc (e.wH (xNew e.H v (.inr (.inr (.inr (.inl (o, k'))))))) q st := by
  have w1 := (h.hp.1 v _ hq).1
  have hn := h.n
  have t7 := hx.t7
  obtain ⟨b, hp, ⟨hf, fs⟩, g, m1, m2, m3, m4, m5⟩ := h
  have low : ∀ a, a < x + 119 → (∀ F, S'.I F a = S.I F a) ∧ (∀ F, S'.R F a = S.R F a) ∧ (∀ F, S'.J F a = S.J F a) ∧ (∀ j, S'.rI a j = S.rI a j) ∧ (∀ j, S'.rR a j = S.rR a j) ∧ (∀ j, S'.rJ a j = S.rJ a j) ∧ S'.K a = S.K a ∧ S'.len a = S.len a := fun a ha => hI.at (by omega) (by show ¬ a = α v; omega)
  have fr : ∀ f g, f ≤ 7 → cFr S x α f g → cFr S' x α f g := fun f g hf7 hc => hc.next hI (by omega) (fun a z1 z2 => by show ¬ a = α v; omega) (fun _ _ => rfl)
  refine ⟨b.nextW hI (fun a ha => by rw [ha]; exact w1), hp.wk hx.1.1 hq hI hJ, ⟨fr _ _ t7 hf, ?_⟩, ⟨((low _ (by omega)).1 _).trans g.1, fun i hi => ?_⟩, ((low _ (by omega)).1 _).trans m1, ((low _ (by omega)).1 _).trans m2, ((low _ (by omega)).1 _).trans m3, fun z => (by cases z), fun _ => ((low _ (by omega)).2.1 _).trans (m5 (show (1 : Nat) ≠ 2 by decide))⟩
  · have key : ∀ t : List xFr, t.length ≤ 7 → cFs S x α t → cFs S' x α t := by
      intro t
      induction t with
      | nil => exact fun _ _ => trivial
      | cons g t ih => exact fun hl hc => ⟨fr _ _ (Nat.le_of_succ_le hl) hc.1, ih (Nat.le_of_succ_le hl) hc.2⟩
    exact key e.t t7 fs
  · obtain ⟨g1, g2⟩ := g.2 i hi
    refine ⟨((low _ (by omega)).2.2.2.2.2.1 i).trans g1, ?_⟩
    rw [(low _ (by omega)).2.2.2.2.1 i]
    exact g2.next hI rfl
end CW
