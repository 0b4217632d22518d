/-! the reference looks at a code: isRight -/
theorem scN_eq {w a nx H : Nat} {s : oHB} (h1 : w ≠ 93) (h2 : ¬ (w = 114 ∨ w = 115)) : scN w a nx H s = scR w a nx H s := by
  unfold scN scR
  by_cases e1 : w = 83
  · rw [if_pos e1, if_pos e1]
  · rw [if_neg e1, if_neg e1]
    by_cases e2 : w = 87
    · rw [if_pos e2, if_pos e2]
      obtain ⟨h, bl⟩ := s
      cases bl <;> rfl
    · rw [if_neg e2, if_neg e2, if_neg h1, if_neg h1]
      by_cases e3 : w = 110
      · rw [if_pos e3, if_pos e3]
      · rw [if_neg e3, if_neg e3]
        by_cases e4 : w = 113
        · rw [if_pos e4, if_pos e4]
        · rw [if_neg e4, if_neg e4, if_neg h2, if_neg h2]
/-- the two orders hold the same ways -/
theorem scNR {w a nx H : Nat} {s : oHB} : (∀ l', scN w a nx H s = some l' → ∃ l, scR w a nx H s = some l ∧ ∀ q, q ∈ l ↔ q ∈ l') ∧ ∀ l, scR w a nx H s = some l → ∃ l', scN w a nx H s = some l' ∧ ∀ q, q ∈ l ↔ q ∈ l' := by
  have sw : ∀ (u v q : Nat × oHB), q ∈ [u, v] ↔ q ∈ [v, u] := fun u v q => by simp [or_comm]
  by_cases h1 : w = 93
  · subst h1
    refine ⟨fun l' hl => ⟨[(nx + a, s.1 - 1, s.2), (nx, H, s.2)], rfl, fun q => ?_⟩, fun l hl => ⟨[(nx, H, s.2), (nx + a, s.1 - 1, s.2)], rfl, fun q => ?_⟩⟩
    · rw [← Option.some.inj (show some [(nx, H, s.2), (nx + a, s.1 - 1, s.2)] = some l' from hl)]; exact sw _ _ _
    · rw [← Option.some.inj (show some [(nx + a, s.1 - 1, s.2), (nx, H, s.2)] = some l from hl)]; exact sw _ _ _
  · by_cases h2 : w = 114 ∨ w = 115
    · have e1 : scN w a nx H s = some [(nx, H, s.2), (a, H, s.2)] := by unfold scN; rw [if_neg (by omega), if_neg (by omega), if_neg (by omega), if_neg (by omega), if_neg (by omega), if_pos h2]
      have e2 : scR w a nx H s = some [(a, H, s.2), (nx, H, s.2)] := by unfold scR; rw [if_neg (by omega), if_neg (by omega), if_neg (by omega), if_neg (by omega), if_neg (by omega), if_pos h2]
      refine ⟨fun l' hl => ⟨_, e2, fun q => ?_⟩, fun l hl => ⟨_, e1, fun q => ?_⟩⟩
      · rw [e1] at hl
        rw [← Option.some.inj hl]; exact sw _ _ _
      · rw [e2] at hl
        rw [← Option.some.inj hl]; exact sw _ _ _
    · have e := scN_eq (a := a) (nx := nx) (H := H) (s := s) h1 h2
      exact ⟨fun l' hl => ⟨l', e.symm.trans hl, fun q => Iff.rfl⟩, fun l hl => ⟨l, e.trans hl, fun q => Iff.rfl⟩⟩
theorem scMW {w a nx : Nat} {s : oHB} : (∀ l', scM w a nx s = some l' → ∃ l, scW w a nx s = some l ∧ ∀ q, q ∈ l ↔ q ∈ l') ∧ ∀ l, scW w a nx s = some l → ∃ l', scM w a nx s = some l' ∧ ∀ q, q ∈ l ↔ q ∈ l' := by
  unfold scM scW
  cases tkW w a with
  | none => exact ⟨fun l' hl => (by cases hl), fun l hl => (by cases hl)⟩
  | some t =>
    show (∀ l', (if s.1 < flr s.2 + t then none else scN w a nx (s.1 - t + gvW w a) s) = some l' → ∃ l, (if s.1 < flr s.2 + t then none else scR w a nx (s.1 - t + gvW w a) s) = some l ∧ ∀ q, q ∈ l ↔ q ∈ l') ∧ ∀ l, (if s.1 < flr s.2 + t then none else scR w a nx (s.1 - t + gvW w a) s) = some l → ∃ l', (if s.1 < flr s.2 + t then none else scN w a nx (s.1 - t + gvW w a) s) = some l' ∧ ∀ q, q ∈ l ↔ q ∈ l'
    by_cases h : s.1 < flr s.2 + t
    · rw [if_pos h, if_pos h]
      exact ⟨fun l' hl => (by cases hl), fun l hl => (by cases hl)⟩
    · rw [if_neg h, if_neg h]
      exact scNR
/-- what is still to be looked at -/
def nuV (P : Nat → Option oHB) (W : Nat → Bool) (z : Nat) : Nat := if (P z).isNone then 2 else if W z then 1 else 0
def nuM (P : Nat → Option oHB) (W : Nat → Bool) : Nat → Nat
  | 0 => 0
  | z + 1 => nuM P W z + nuV P W z
theorem nuM_le {P P' : Nat → Option oHB} {W W' : Nat → Bool} (h : ∀ z, nuV P' W' z ≤ nuV P W z) : ∀ n, nuM P' W' n ≤ nuM P W n
  | 0 => Nat.le_refl 0
  | n + 1 => Nat.add_le_add (nuM_le h n) (h n)
theorem nuM_lt {P P' : Nat → Option oHB} {W W' : Nat → Bool} {p : Nat} (h : ∀ z, nuV P' W' z ≤ nuV P W z) (hp : nuV P' W' p < nuV P W p) : ∀ n, p < n → nuM P' W' n < nuM P W n
  | 0, e => absurd e (Nat.not_lt_zero p)
  | n + 1, e => by
    show nuM P' W' n + nuV P' W' n < nuM P W n + nuV P W n
    by_cases q : p = n
    · subst q
      exact Nat.add_lt_add_of_le_of_lt (nuM_le h p) hp
    · exact Nat.add_lt_add_of_lt_of_le (nuM_lt h hp n (by omega)) (h n)
theorem nuV_up {P : Nat → Option oHB} {W : Nat → Bool} {q : Nat} {t : oHB} (v : Nat) : nuV (upS P q t) (upW P W q) v ≤ nuV P W v := by
  by_cases e : v = q
  · have e1 : upS P q t v = some t := if_pos e
    cases hP : P q with
    | none =>
      have e2 : upW P W q v = true := if_pos ⟨e, by rw [hP]; rfl⟩
      unfold nuV
      rw [e1, e2, e, hP]
      show (1 : Nat) ≤ 2
      decide
    | some s =>
      have e2 : upW P W q v = W v := if_neg (fun y => by rw [hP] at y; cases y.2)
      unfold nuV
      rw [e1, e2, e, hP]
      exact Nat.le_refl (if W q = true then 1 else 0)
  · have e1 : upS P q t v = P v := if_neg e
    have e2 : upW P W q v = W v := if_neg (fun y => e y.1)
    unfold nuV
    rw [e1, e2]
    exact Nat.le_refl _
def clW (W : Nat → Bool) (p : Nat) : Nat → Bool := fun v => if v = p then false else W v
theorem clW_at (W : Nat → Bool) (p : Nat) : clW W p p = false := if_pos rfl
theorem clW_ne {W : Nat → Bool} {p v : Nat} (e : v ≠ p) : clW W p v = W v := if_neg e
theorem nuV_upL : ∀ (l : List (Nat × oHB)) (P : Nat → Option oHB) (W : Nat → Bool) (z : Nat), nuV (upL l P) (upWL l P W) z ≤ nuV P W z
  | [], _, _, _ => Nat.le_refl _
  | q :: l, P, W, z => Nat.le_trans (nuV_upL l _ _ z) (nuV_up z)
/-- who waits was there and waited, or is new -/
theorem upWL_old : ∀ (l : List (Nat × oHB)) (P : Nat → Option oHB) (W : Nat → Bool) (z : Nat) (s : oHB), upL l P z = some s → upWL l P W z = false → P z ≠ none ∧ W z = false
  | [], P, W, z, s, h1, h2 => ⟨(by rw [show P z = some s from h1]; exact fun y => (by cases y)), h2⟩
  | q :: l, P, W, z, s, h1, h2 => by
    obtain ⟨g1, g2⟩ := upWL_old l _ _ z s h1 h2
    unfold upW at g2
    by_cases e : z = q.1 ∧ (P q.1).isNone = true
    · rw [if_pos e] at g2; cases g2
    · rw [if_neg e] at g2
      refine ⟨?_, g2⟩
      unfold upS at g1
      by_cases e2 : z = q.1
      · intro hn
        refine e ⟨e2, ?_⟩
        rw [← e2, hn]; rfl
      · rw [if_neg e2] at g1; exact g1
section OMRc
variable {sp : ox_E} {d mr sr : Nat} {S : ox_St} {Q : ox_Q} {m ce c g : Nat} {κ : oCd}
/-- all that holds between two looks -/
def mlI (S : ox_St) (m ce c g : Nat) (κ : oCd) (P : Nat → Option oHB) (W : Nat → Bool) : Prop := mlS S m ce c g κ P W ∧ P 0 = some (0, []) ∧ (∀ p s, P p = some s → plW κ p ∧ s.1 ≤ cdM κ) ∧ (∀ T, okT κ T → tbL P T) ∧ ∀ p s, P p = some s → W p = false → agW κ (dcW κ p) (dcA κ p) ∧ ∃ l, scM (dcW κ p) (dcA κ p) (dcN κ p) s = some l ∧ ∀ q ∈ l, P q.1 = some q.2
theorem mlI_ok {P : Nat → Option oHB} {W : Nat → Bool} (h : mlI S m ce c g κ P W) (hw : ∀ p, p < cdN κ → W p = false) : okT κ P := by
  obtain ⟨h1, h2, h3, h4, h5⟩ := h
  refine ⟨h2, fun p s hp => ?_⟩
  obtain ⟨g1, g2⟩ := h3 p s hp
  obtain ⟨g3, l', g4, g5⟩ := h5 p s hp (hw p g1.1)
  obtain ⟨l, g6, g7⟩ := scMW.1 l' g4
  exact ⟨g1, g2, g3, l, g6, fun q hq => g5 q ((g7 q).mp hq)⟩
theorem s_170_52 {S0 : ox_St} (hsp : ox_mono sp) (hQ1 : ∀ S', mlF m S0 S' → (∃ T, okT κ T) → Q (some (.inl 1)) S') (hQ0 : ∀ S', mlF m S0 S' → ¬ (∃ T, okT κ T) → Q (some (.inl 0)) S') : ∀ (k : Nat) (S : ox_St) (P : Nat → Option oHB) (W : Nat → Bool), mlF m S0 S → mlI S m ce c g κ P W → nuM P W 160 < k → c_170_52 (ox_M sp (d + 3)) m (nI c) 1 S mr sr Q := by
  have hE : ox_mono (ox_M sp (d + 3)) := ox_M_mono hsp _
  intro k
  induction k with
  | zero => intro S P W _ _ h; exact absurd h (Nat.not_lt_zero _)
  | succ k ih =>
    have inner : ∀ (r p : Nat) (S : ox_St) (P : Nat → Option oHB) (W : Nat → Bool) (mo : Int32), p + r = cdN κ → mlF m S0 S → mlI S m ce c g κ P W → (mo = 0 ∧ (∀ q, q < p → W q = false) ∧ nuM P W 160 < k + 1 ∨ mo = 1 ∧ nuM P W 160 < k) → c_170_60 (ox_M sp (d + 3)) m (nI c) mo (nI p) S mr sr Q := by
      intro r
      induction r with
      | zero =>
        intro p S P W mo hp t0 hI hmo
        obtain rfl : p = cdN κ := by omega
        have hM := hI.1.1
        obtain ⟨⟨s1, s2, s3⟩, ⟨s4, s5, s6⟩, ⟨s7, s8⟩, s9, s10, o1, o2, o3, o4, ⟨o5, o5b, o5c⟩, o6⟩ := hI.1.2.1
        obtain ⟨r1, r2, r3⟩ := hM.row (F := 81) (o := 8) (k := 15) (n := 300) (by decide +kernel)
        refine f_170_60 hE ?_
        unfold q_170_60
        rw [hM.1, r1, r2, r3, nI_clamp (n := c) (by omega), s5]
        refine ⟨rfl, rfl, vp_in_nI s10 (by decide), fun _ => ?_, fun z => absurd (nI_le (Nat.le_refl _) (by omega)) z⟩
        rcases hmo with ⟨rfl, hw, -⟩ | ⟨rfl, hnu⟩
        · exact f_170_52 hE ⟨fun _ => ⟨Or.inr rfl, hQ1 S t0 ⟨P, mlI_ok hI hw⟩⟩, fun e => absurd rfl e⟩
        · exact ih S P W t0 hI hnu
      | succ r ihr =>
        intro p S P W mo hp t0 hI hmo
        have hM := hI.1.1
        have hs := hI.1.2.1
        obtain ⟨⟨s1, s2, s3⟩, ⟨s4, s5, s6⟩, ⟨s7, s8⟩, s9, s10, o1, o2, o3, o4, ⟨o5, o5b, o5c⟩, o6⟩ := hI.1.2.1
        obtain ⟨r1, r2, r3⟩ := hM.row (F := 81) (o := 8) (k := 15) (n := 300) (by decide +kernel)
        obtain ⟨v1, v2, v3⟩ := hM.row (F := 137) (o := 40) (k := 17) (n := 160) (by decide +kernel)
        have hw := hI.1.2.2.2.2.1 p (by omega)
        refine f_170_60 hE ?_
        unfold q_170_60
        rw [hM.1, r1, r2, r3, v1, v2, v3, nI_clamp (n := c) (by omega), nI_clamp (n := p) (by omega), s5, hw, nar0, nI_1]
        refine ⟨rfl, rfl, vp_in_nI s10 (by decide), fun z => absurd z (nI_ge (by omega) (by omega)), fun _ => ⟨rfl, rfl, vp_in_nI (by omega) (by decide), fun z => ⟨rfl, rfl, vp_in_nI (by omega) (by decide), ?_⟩, fun z => ?_⟩⟩
        · have hWp : W p = true := by
            cases e : W p with
            | true => rfl
            | false => rw [e] at z; exact absurd rfl z
          have hPn := hI.1.2.2.2.2.2 p hWp
          obtain ⟨s, hPs⟩ : ∃ s, P p = some s := by
            cases e : P p with
            | none => exact absurd e hPn
            | some s => exact ⟨s, rfl⟩
          have hpl := (hI.2.2.1 p s hPs).1
          have g1 : mlF m S (S.wI (m + 40) p 0) := mlF_wI (by omega) (by omega)
          have h1 : mlS (S.wI (m + 40) p 0) m ce c g κ P (clW W p) := by
            obtain ⟨q1, q2, q3, q4, q5, q6⟩ := hI.1
            have ro : ∀ a, a ≠ m + 40 → (S.wI (m + 40) p 0).rI a = S.rI a := fun a y => funext fun j => by rw [or_wI_rI, if_neg (fun e => y e.1)]
            refine ⟨q1.lf g1, q2.lf g1, fun z hz => ?_, q4, fun z hz => ?_, fun z hz => ?_⟩
            · have := q3 z hz
              unfold mlE at this ⊢
              rw [ro _ (by omega), ro _ (by omega), ro _ (by omega), ro _ (by omega)]
              exact this
            · rw [or_wI_rI]
              by_cases e : z = p
              · rw [if_pos ⟨rfl, e⟩, e, clW_at]; rfl
              · rw [if_neg (fun y => e y.2), clW_ne e]; exact q5 z hz
            · by_cases e : z = p
              · rw [e, clW_at] at hz; cases hz
              · rw [clW_ne e] at hz; exact q6 z hz
          have hnp : nuV P (clW W p) p < nuV P W p := by
            unfold nuV
            rw [hPs, hWp, clW_at]
            show (0 : Nat) < 1
            decide
          have hnv : ∀ v, nuV P (clW W p) v ≤ nuV P W v := fun v => by
            by_cases e : v = p
            · rw [e]; exact Nat.le_of_lt hnp
            · unfold nuV
              rw [clW_ne e]
              exact Nat.le_refl _
          refine ⟨by decide, hM.1, by decide, 0, 0, Nat.zero_le _, Nat.zero_le _, ?_⟩
          refine s_168 hsp h1 hPs hpl (fun l ag hsc hcm S' q1 q2 => f_170_97 hE ⟨fun _ => ?_, fun e => absurd e (by decide)⟩) (fun hn S' q1 => f_170_97 hE ⟨fun e => absurd rfl e, fun _ => ⟨Or.inl rfl, hQ0 S' ((t0.trans g1).trans q1) (fun gT => ?_)⟩⟩)
          · have hle := cmL_le l P hcm
            have hnu : nuM (upL l P) (upWL l P (clW W p)) 160 < nuM P W 160 := Nat.lt_of_le_of_lt (nuM_le (nuV_upL l P _) 160) (nuM_lt hnv hnp 160 (by omega))
            show c_170_60 (ox_M sp (d + 3)) m (nI c) 1 (nI p + 1) S' mr sr Q
            rw [nI_1]
            refine ihr (p + 1) S' (upL l P) _ 1 (by omega) ((t0.trans g1).trans q1) ⟨q2, hle _ _ hI.2.1, cmL_pl l P hcm hI.2.2.1, fun T hT => ?_, fun z s' hz hwz => ?_⟩ (Or.inr ⟨rfl, by omega⟩)
            · obtain ⟨-, -, -, l0, e1, e2⟩ := hT.2 _ _ (hI.2.2.2.1 T hT _ _ hPs)
              obtain ⟨l', e3, e4⟩ := scMW.2 l0 e1
              rw [hsc] at e3
              obtain rfl := Option.some.inj e3
              exact (cmL_of hT l P (hI.2.2.2.1 T hT) (fun q hq => e2 q ((e4 q).mpr hq))).2
            · obtain ⟨g2, g3⟩ := upWL_old l P _ z s' hz hwz
              cases hPz : P z with
              | none => exact absurd hPz g2
              | some s0 =>
                rw [hle _ _ hPz] at hz
                obtain rfl := Option.some.inj hz
                by_cases e : z = p
                · subst e
                  rw [hPs] at hPz
                  obtain rfl := Option.some.inj hPz
                  exact ⟨ag, l, hsc, cmL_at l P hcm⟩
                · rw [clW_ne e] at g3
                  obtain ⟨k1, l0, k2, k3⟩ := hI.2.2.2.2 z s0 hPz g3
                  exact ⟨k1, l0, k2, fun q hq => hle _ _ (k3 q hq)⟩
          · obtain ⟨T, hT⟩ := gT
            obtain ⟨-, -, k1, l0, e1, e2⟩ := hT.2 _ _ (hI.2.2.2.1 T hT _ _ hPs)
            obtain ⟨l', e3, e4⟩ := scMW.2 l0 e1
            exact hn l' k1 e3 (cmL_of hT l' P (hI.2.2.2.1 T hT) (fun q hq => e2 q ((e4 q).mpr hq))).1
        · have hWp : W p = false := by
            cases e : W p with
            | false => rfl
            | true => rw [e] at z; exact absurd z (by decide)
          refine ihr (p + 1) S P W mo (by omega) t0 hI ?_
          rcases hmo with ⟨rfl, hw2, hnu⟩ | hmo
          · refine Or.inl ⟨rfl, fun q hq => ?_, hnu⟩
            by_cases e : q = p
            · rw [e]; exact hWp
            · exact hw2 q (by omega)
          · exact Or.inr hmo
    intro S P W t0 hI hnu
    exact f_170_52 hE ⟨fun e => absurd e (by decide), fun _ => inner (cdN κ) 0 S P W 0 (Nat.zero_add _) t0 hI (Or.inl ⟨rfl, fun q hq => absurd hq (Nat.not_lt_zero q), hnu⟩)⟩
theorem s_170_2 {E : ox_E} (hE : ox_mono E) : ∀ (r i : Nat) (S : ox_St), i + r = 160 → oML S m ce → (∀ z, z < i → S.rI (m + 36) z = -1 ∧ S.rI (m + 40) z = 0) → (∀ S', mlF m S S' → (∀ z, z < 160 → S'.rI (m + 36) z = (if z = 0 then 0 else -1) ∧ S'.rI (m + 40) z = if z = 0 then 1 else 0) → S'.rI (m + 37) 0 = 0 → c_170_52 E m (nI c) 1 S' mr sr Q) → c_170_2 E m (nI c) (nI i) S mr sr Q
  | 0, i, S, hi, h, hw, hQ => by
    obtain rfl : i = 160 := by omega
    obtain ⟨u1, u2, u3⟩ := h.row (F := 133) (o := 36) (k := 15) (n := 160) (by decide +kernel)
    obtain ⟨v1, v2, v3⟩ := h.row (F := 134) (o := 37) (k := 15) (n := 160) (by decide +kernel)
    obtain ⟨a1, a2, a3⟩ := h.row (F := 137) (o := 40) (k := 17) (n := 160) (by decide +kernel)
    refine f_170_2 hE ?_
    unfold q_170_2
    rw [h.1, u1, u2, u3, nar1, show Int32.toNatClampNeg 0 = 0 from rfl]
    refine ⟨fun _ => ⟨rfl, rfl, vp_in_nI (n := 0) (by decide) (by decide), ?_⟩, fun z => absurd (by decide) z⟩
    intro S1
    have f1 : mlF m S S1 := mlF_wI (by omega) (by omega)
    have r1 : ∀ a j, S1.rI a j = if a = m + 36 ∧ j = 0 then 0 else S.rI a j := fun a j => or_wI_rI S (m + 36) 0 0 a j
    generalize S1 = T1 at f1 r1 ⊢
    rw [f1.1, f1.2.1, f1.2.2.2.1, h.1, v1, v2, v3]
    refine ⟨rfl, rfl, vp_in_nI (n := 0) (by decide) (by decide), ?_⟩
    intro S2
    have f2 : mlF m S S2 := f1.trans (mlF_wI (by omega) (by omega))
    have r2 : ∀ a j, S2.rI a j = if a = m + 37 ∧ j = 0 then 0 else T1.rI a j := fun a j => or_wI_rI T1 (m + 37) 0 0 a j
    generalize S2 = T2 at f2 r2 ⊢
    rw [f2.1, f2.2.1, f2.2.2.2.1, h.1, a1, a2, a3]
    refine ⟨rfl, rfl, vp_in_nI (n := 0) (by decide) (by decide), ?_⟩
    have f3 : mlF m S (T2.wI (m + 40) 0 1) := f2.trans (mlF_wI (by omega) (by omega))
    have r36 : ∀ v, (T2.wI (m + 40) 0 1).rI (m + 36) v = if v = 0 then 0 else S.rI (m + 36) v := fun v => by
      rw [or_wI_rI, if_neg (fun e => by omega), r2, if_neg (fun e => by omega), r1]
      by_cases e : v = 0
      · rw [if_pos ⟨rfl, e⟩, if_pos e]
      · rw [if_neg (fun y => e y.2), if_neg e]
    have r40 : ∀ v, (T2.wI (m + 40) 0 1).rI (m + 40) v = if v = 0 then 1 else S.rI (m + 40) v := fun v => by
      rw [or_wI_rI]
      by_cases e : v = 0
      · rw [if_pos ⟨rfl, e⟩, if_pos e]
      · rw [if_neg (fun y => e y.2), if_neg e, r2, if_neg (fun e => by omega), r1, if_neg (fun e => by omega)]
    refine hQ (T2.wI (m + 40) 0 1) f3 (fun z hz => ?_) ?_
    · rw [r36, r40]
      by_cases e : z = 0
      · rw [if_pos e, if_pos e, if_pos e, if_pos e]; exact ⟨rfl, rfl⟩
      · rw [if_neg e, if_neg e, if_neg e, if_neg e]; exact hw z hz
    · rw [or_wI_rI, if_neg (fun e => by omega), r2, if_pos ⟨rfl, rfl⟩]
  | r + 1, i, S, hi, h, hw, hQ => by
    obtain ⟨u1, u2, u3⟩ := h.row (F := 133) (o := 36) (k := 15) (n := 160) (by decide +kernel)
    obtain ⟨a1, a2, a3⟩ := h.row (F := 137) (o := 40) (k := 17) (n := 160) (by decide +kernel)
    refine f_170_2 hE ?_
    unfold q_170_2
    rw [h.1, u1, u2, u3, nar0, nI_clamp (n := i) (by omega), nI_1]
    refine ⟨fun z => absurd z (nI_ge (b := 160) (by omega) (by decide)), fun _ => ⟨rfl, rfl, vp_in_nI (by omega) (by decide), ?_⟩⟩
    intro S1
    have f1 : mlF m S S1 := mlF_wI (by omega) (by omega)
    have r1 : ∀ a j, S1.rI a j = if a = m + 36 ∧ j = i then -1 else S.rI a j := fun a j => or_wI_rI S (m + 36) i (-1) a j
    generalize S1 = T1 at f1 r1 ⊢
    rw [f1.1, f1.2.1, f1.2.2.2.1, h.1, a1, a2, a3]
    refine ⟨rfl, rfl, vp_in_nI (by omega) (by decide), ?_⟩
    have f2 : mlF m S (T1.wI (m + 40) i 0) := f1.trans (mlF_wI (by omega) (by omega))
    refine s_170_2 hE r (i + 1) (T1.wI (m + 40) i 0) (by omega) (h.lf f2) (fun z hz => ?_) (fun S' q1 q2 q3 => hQ S' (f2.trans q1) q2 q3)
    rw [or_wI_rI, if_neg (fun e => by omega), or_wI_rI, r1, r1]
    by_cases e : z = i
    · rw [if_pos ⟨rfl, e⟩, if_pos ⟨rfl, e⟩]; exact ⟨rfl, rfl⟩
    · rw [if_neg (fun y => e y.2), if_neg (fun y => e y.2), if_neg (fun y => by omega)]; exact hw z (by omega)
/-- isRight: whether there is a table -/
theorem s_170 (hsp : ox_mono sp) (hM : oML S m ce) (hs : mSh S m c g κ) (hQ1 : ∀ S', mlF m S S' → (∃ T, okT κ T) → Q (some (.inl 1)) S') (hQ0 : ∀ S', mlF m S S' → ¬ (∃ T, okT κ T) → Q (some (.inl 0)) S') : ox_M sp (d + 4) 170 [.inr (.inr m), .inl (nI c)] mr sr S Q := by
  have hE : ox_mono (ox_M sp (d + 3)) := ox_M_mono hsp _
  have hO : cdO κ := hs.2.2.2.2.2
  have hpl0 : plW κ 0 := ⟨by have := hO.2.2.2.2.1.1; omega, rfl, fun z => absurd z (by decide)⟩
  refine f_170 hsp ?_
  show c_170_2 (ox_M sp (d + 3)) m (nI c) (nI 0) S mr sr Q
  refine s_170_2 hE 160 0 S rfl hM (fun z hz => absurd hz (Nat.not_lt_zero z)) (fun S1 f1 q1 q2 => ?_)
  have hup : ∀ p s, upS (fun _ => none) 0 ((0, []) : oHB) p = some s → p = 0 ∧ s = (0, []) := fun p s hp => by
    unfold upS at hp
    by_cases e : p = 0
    · rw [if_pos e] at hp; exact ⟨e, (Option.some.inj hp).symm⟩
    · rw [if_neg e] at hp; cases hp
  have hex : ∀ v : Nat, ∃ k, v < k := fun v => ⟨v + 1, Nat.lt_succ_self v⟩
  obtain ⟨k, hk⟩ := hex (nuM (upS (fun _ => none) 0 (0, [])) (fun z => decide (z = 0)) 160)
  refine s_170_52 hsp hQ1 hQ0 k S1 (upS (fun _ => none) 0 (0, [])) (fun z => decide (z = 0)) f1 ⟨⟨hM.lf f1, hs.lf f1, fun z hz => ?_, fun z hz => ?_, fun z hz => ?_, fun z hz => ?_⟩, upS_at _ 0 _, fun p s hp => ?_, fun T hT p s hp => ?_, fun p s hp hw => ?_⟩ hk
  · unfold upS
    by_cases e : z = 0
    · rw [if_pos e]
      refine ⟨0, 0, fun _ => 0, fun _ => 0, rfl, by decide, by decide, ?_, by rw [e]; exact q2, fun i hi => absurd hi (Nat.not_lt_zero i)⟩
      rw [(q1 z hz).1, if_pos e]; rfl
    · rw [if_neg e]
      show S1.rI (m + 36) z = -1
      rw [(q1 z hz).1, if_neg e]
  · cases e : upS (fun _ => none) 0 ((0, []) : oHB) z with
    | none => exact absurd e hz
    | some s => have := (hup z s e).1; omega
  · rw [(q1 z hz).2]
    by_cases e : z = 0
    · rw [if_pos e, if_pos (by rw [e]; rfl)]
    · rw [if_neg e, if_neg (by rw [decide_eq_true_eq]; exact e)]
  · have e : z = 0 := of_decide_eq_true hz
    rw [e]
    exact fun y => by cases y
  · obtain ⟨rfl, rfl⟩ := hup p s hp
    exact ⟨hpl0, Nat.zero_le _⟩
  · obtain ⟨rfl, rfl⟩ := hup p s hp
    exact hT.1
  · obtain ⟨rfl, rfl⟩ := hup p s hp
    exact absurd hw (by decide)
end OMRc
