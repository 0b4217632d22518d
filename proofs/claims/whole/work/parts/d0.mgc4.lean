/-! the reference: collecting, the loop over what was moved -/
section GC4
variable {sp : ox_E} {d mr sr : Nat} {S S0 S1 S' U : ox_St} {Q : ox_Q} {m ce : Nat} {γ : Int → Nat} {A B M M1 M' X D : List Int} {T : Nat} {nc K : Nat} {u v n : Int} {H : xHp} {o : xOb}
theorem xObOk.rf (h : xObOk nc K H o) (hH : xHOk nc K H n) : ∀ u ∈ xRf o, xOk nc H u := by
  match o, h with
  | .inl N, _ => exact fun u hu => (by cases hu)
  | .inr (.inl q), h => exact h.2.2.2
  | .inr (.inr (.inl q)), _ => exact fun u hu => (by cases hu)
  | .inr (.inr (.inr (.inl q))), h =>
    intro u hu
    have e : u = q.1 := List.mem_singleton.mp hu
    rw [e]
    refine Or.inr fun z => h.1 ?_
    unfold xLen
    rw [z]
  | .inr (.inr (.inr (.inr c))), _ => exact fun u hu => (by cases hu)
theorem nil_or_snoc : ∀ (N : List Int), N = [] ∨ ∃ N' v, N = N' ++ [v]
  | [] => Or.inl rfl
  | w :: N => Or.inr (by
    rcases nil_or_snoc N with z | ⟨N', v, z⟩
    · exact ⟨[], w, by rw [z]; rfl⟩
    · exact ⟨w :: N', v, by rw [z]; rfl⟩)
set_option maxHeartbeats 1000000 in
theorem r_131_206 (hsp : ox_mono sp) (h0 : rHp S0 (m + ce) γ B H T) (hH : xHOk nc K H n) (hnc : nc ≤ 300) (hA : 16 + xSzA H A ≤ 1100000) (hC : xClo H A) (hQ : ∀ U M, gX M1 M → gZ S0 U m ce γ B H A M M M → gPh m ce (fun _ => False) S1 U → Q none ((U.sR 73 m (m + (5 - ce))).sR 74 m (m + ce))) : ∀ (k : Nat) (N D M : List Int) (mr sr : Nat) (U : ox_St), D.length + k = A.length → M = N ++ D → gX M1 M → gZ S0 U m ce γ B H A M D D → gPh m ce (fun _ => False) S1 U → c_131_206 (ox_M sp (d + 2)) m (nI (16 + xSzA H D)) U mr sr Q := by
  have hE : ox_mono (ox_M sp (d + 2)) := ox_M_mono hsp _
  have fin : ∀ (D : List Int) (mr sr : Nat) (U : ox_St), gX M1 D → gZ S0 U m ce γ B H A D D D → gPh m ce (fun _ => False) S1 U → c_131_206 (ox_M sp (d + 2)) m (nI (16 + xSzA H D)) U mr sr Q := fun D mr sr U gx hZ ph => by
    have ml := hZ.1.1
    have le := (xSzA_sub (H := H) hZ.1.2.1.1 hZ.2.1).1
    obtain ⟨c1, c2, c3⟩ := ml.cells
    obtain ⟨o1, o2, o3⟩ := ml.other
    have e75 := hZ.1.2.2.1
    refine f_131_206 hE ⟨by rw [ml.1]; rfl, fun _ => ⟨by rw [ml.1]; rfl, by rw [ml.1]; rfl, by rw [ml.1]; rfl, ?_⟩, fun z => absurd (by rw [e75]; exact nI_le (Nat.le_refl _) (by omega)) z⟩
    rw [c1, o1]
    exact ⟨by rw [or_sR_K, ml.1]; rfl, rfl, hQ U D gx hZ ph⟩
  intro k
  induction k with
  | zero =>
    intro N D M mr sr U hk hM gx hZ ph
    have hl := (xSzA_sub (H := H) hZ.1.2.1.1 hZ.2.1).2
    rw [hM, List.length_append] at hl
    have n0 : N = [] := List.length_eq_zero_iff.mp (by omega)
    rw [n0, List.nil_append] at hM
    rw [hM] at hZ gx
    exact fin D mr sr U gx hZ ph
  | succ k ih =>
    intro N D M mr sr U hk hM gx hZ ph
    rcases nil_or_snoc N with n0 | ⟨N', v, n0⟩
    · rw [n0, List.nil_append] at hM
      rw [hM] at hZ gx
      exact fin D mr sr U gx hZ ph
    · have hM' : M = N' ++ v :: D := by rw [hM, n0, List.append_assoc]; rfl
      have nd := hZ.1.2.1.1
      have vM : v ∈ M := by rw [hM']; exact List.mem_append_right _ List.mem_cons_self
      have ndD : (v :: D).Nodup := by rw [hM'] at nd; exact (List.nodup_append.mp nd).2.1
      have vD : v ∉ D := (List.nodup_cons.mp ndD).1
      have hp : gD H M v = 16 + xSzA H D := by rw [hM'] at nd ⊢; exact gD_at nd
      have vB := hZ.1.2.1.2 v vM
      have vA := hZ.2.1 v vM
      obtain ⟨ob, e1, clB⟩ := h0.1.2 v vB
      obtain ⟨ob', e1', clA⟩ := hC.2 v vA
      rw [e1] at e1'
      cases e1'
      obtain ⟨-, r1, r2⟩ := h0.2.1 v vB ob e1
      have obok := (hH.2 v ob e1).2.2
      have vls : ∀ u ∈ xRf ob, gVl nc H A B u := fun u hu => ⟨obok.rf hH u hu, clB u hu, clA u hu⟩
      have so : xSo (H v) = xSz ob := by rw [e1]; rfl
      have s2 := xSz_2 ob
      have ml := hZ.1.1
      have hce := ml.2.2.1
      have le := (xSzA_sub (H := H) nd hZ.2.1).1
      have g2 := gD_mem (H := H) vM
      rw [hp, so] at g2
      obtain ⟨o1, o2, o3⟩ := ml.other
      have e75 := hZ.1.2.2.1
      have raw := hZ.2.2.1 v vM vD
      have raw' : ∀ k, k < xSz ob → U.rI (m + (5 - ce)) (16 + xSzA H D + k) = S0.rI (m + ce) (γ v + k) := fun k hk => by rw [← hp]; exact raw k (by omega)
      have raw0 : U.rI (m + (5 - ce)) (16 + xSzA H D) = S0.rI (m + ce) (γ v) := raw' 0 (by omega)
      have tg := r1.szC
      have tgU : szC U (m + (5 - ce)) (16 + xSzA H D) ob := ⟨by rw [raw0]; exact tg.1, fun z => by
        have h3 : 3 ≤ xSz ob := by
          match ob, z with
          | .inl N, _ => show 3 ≤ 3 + _; omega
          | .inr (.inl q), _ => show 3 ≤ 3 + _; omega
          | .inr (.inr (.inl q)), z => exact absurd z (show ¬ ((5 : Int) = 3 ∨ (5 : Int) = 4) by decide)
          | .inr (.inr (.inr (.inl q))), z => exact absurd z (show ¬ ((6 : Int) = 3 ∨ (6 : Int) = 4) by decide)
          | .inr (.inr (.inr (.inr q))), z => exact absurd z (show ¬ ((7 : Int) = 3 ∨ (7 : Int) = 4) by decide)
        rw [raw' 2 (by omega)]; exact tg.2 z⟩
      have nxt : ∀ (V : ox_St) (M' : List Int) (mr sr : Nat), gX M M' → gZ S0 V m ce γ B H A M' (v :: D) (v :: D) → gPh m ce (fun _ => False) S1 V → c_131_206 (ox_M sp (d + 2)) m (nI (16 + xSzA H D + xSz ob)) V mr sr Q := fun V M' mr sr gx' hZ' ph' => by
        obtain ⟨N2, n2, -⟩ := id gx'
        have := ih (N2 ++ N') (v :: D) M' mr sr V (by rw [List.length_cons]; omega) (by rw [n2, hM', List.append_assoc]) (gx.trans gx') hZ' ph'
        have e : 16 + xSzA H (v :: D) = 16 + xSzA H D + xSz ob := by
          show 16 + (xSo (H v) + xSzA H D) = _
          omega
        rw [e] at this
        exact this
      have sub3 : ∀ u ∈ M, u ∉ v :: D → gRw S0 U m ce γ H M u := fun u hu hX => hZ.2.2.1 u hu (fun z => hX (List.mem_cons_of_mem _ z))
      have plain : xTo ob = 3 ∨ xTo ob = 5 ∨ xTo ob = 7 → ∀ mr sr, c_131_206 (ox_M sp (d + 2)) m (nI (16 + xSzA H D + xSz ob)) U mr sr Q := fun hx mr sr => by
        refine nxt U M mr sr (gX.refl nd) ⟨hZ.1, hZ.2.1, sub3, fun u hu => ?_⟩ ph
        rcases List.mem_cons.mp hu with z | z
        · rw [z]
          refine ⟨vM, ob, e1, r1.mv (fun k hk => by rw [hp]; exact raw' k hk) (by rw [hp]; exact g2.1) (by rw [hp]; omega) hx, fun u hu => ?_⟩
          match ob, hx, hu with
          | .inl N, _, hu => cases hu
          | .inr (.inl q), hx, _ => exact absurd hx (show ¬ ((4 : Int) = 3 ∨ (4 : Int) = 5 ∨ (4 : Int) = 7) by decide)
          | .inr (.inr (.inl q)), _, hu => cases hu
          | .inr (.inr (.inr (.inl q))), hx, _ => exact absurd hx (show ¬ ((6 : Int) = 3 ∨ (6 : Int) = 5 ∨ (6 : Int) = 7) by decide)
          | .inr (.inr (.inr (.inr c))), _, hu => cases hu
        · exact hZ.2.2.2 u z
      refine f_131_206 hE ⟨by rw [ml.1]; rfl, fun z => absurd z (by rw [e75]; exact nI_ge (by omega) (by omega)), fun _ => ⟨by rw [ml.1]; rfl, by decide, by decide, 0, 0, Nat.zero_le _, Nat.zero_le _, ?_⟩⟩
      rw [o1]
      refine s_129 hsp o2 o3 (by omega) tgU (f_131_222 hE ?_)
      have p31 : 16 + xSzA H D < 2 ^ 31 := by omega
      have ip : vp_in (nI (16 + xSzA H D)) 1100000 := vp_in_nI (by omega) (by decide)
      unfold q_131_222
      rw [o1, o2, o3, ml.1, nI_add, nI_clamp p31, tgU.1]
      match ob, e1, r1, r2, vls, so, s2, g2, raw', tgU, nxt, plain with
      | .inl N, _, _, _, _, _, _, _, _, _, _, plain => exact ⟨rfl, rfl, ip, fun _ => ⟨rfl, rfl, ip, fun _ => plain (Or.inl rfl) _ _, fun z => absurd z (show ¬ Int32.ofInt 3 = 6 by decide)⟩, fun z => absurd z (show ¬ Int32.ofInt 3 = 4 by decide)⟩
      | .inr (.inr (.inl q)), _, _, _, _, _, _, _, _, _, _, plain => exact ⟨rfl, rfl, ip, fun _ => ⟨rfl, rfl, ip, fun _ => plain (Or.inr (Or.inl rfl)) _ _, fun z => absurd z (show ¬ Int32.ofInt 5 = 6 by decide)⟩, fun z => absurd z (show ¬ Int32.ofInt 5 = 4 by decide)⟩
      | .inr (.inr (.inr (.inr c))), _, _, _, _, _, _, _, _, _, _, plain => exact ⟨rfl, rfl, ip, fun _ => ⟨rfl, rfl, ip, fun _ => plain (Or.inr (Or.inr rfl)) _ _, fun z => absurd z (show ¬ Int32.ofInt 7 = 6 by decide)⟩, fun z => absurd z (show ¬ Int32.ofInt 7 = 4 by decide)⟩
      | .inr (.inl (l, kk)), e1, ⟨r0, t1, t2, t3, t4⟩, r2, vls, so, s2, g2, raw', tgU, nxt, _ =>
        have sz : xSz (.inr (.inl (l, kk))) = 3 + l.length := rfl
        refine ⟨rfl, rfl, ip, fun z => absurd (show Int32.ofInt 4 = 4 by decide) z, fun _ => ?_⟩
        show c_131_235 (ox_M sp (d + 2)) m (nI (16 + xSzA H D)) (nI (3 + l.length)) (nI (3 + 0)) U _ _ Q
        refine r_131_235 (M1 := M) hsp h0 hH hnc hA e1 vD vls (fun V M' mr sr gx' hZ' ph' => nxt V M' mr sr gx' hZ' ph') l.length 0 _ _ U M (by omega) (gX.refl nd) vM hp ⟨hZ.1, hZ.2.1, sub3, hZ.2.2.2⟩ ph ⟨tgU.1, ?_, ?_, fun j hj => absurd hj (Nat.not_lt_zero _), fun j _ hj => ?_⟩
        · rw [raw' 1 (by omega)]; exact t2
        · rw [raw' 2 (by omega)]; exact t3
        · rw [Nat.add_assoc, raw' (3 + j) (by omega), ← Nat.add_assoc]; exact t4 j hj
      | .inr (.inr (.inr (.inl (ov, kk)))), e1, ⟨r0, t1, t2, t3⟩, r2, vls, so, s2, g2, raw', tgU, nxt, _ =>
        have sz : xSz (.inr (.inr (.inr (.inl (ov, kk))))) = 3 := rfl
        have n1 : nI (16 + xSzA H D) + 1 = nI (16 + xSzA H D + 1) := nI_1 _
        refine ⟨rfl, rfl, ip, fun _ => ⟨rfl, rfl, ip, fun z => absurd (show Int32.ofInt 6 = 6 by decide) z, fun _ => ?_⟩, fun z => absurd z (show ¬ Int32.ofInt 6 = 4 by decide)⟩
        rw [n1, nI_clamp (show 16 + xSzA H D + 1 < 2 ^ 31 by omega), raw' 1 (by omega), t2]
        refine ⟨rfl, rfl, rfl, vp_in_nI (by omega) (by decide), by decide, rfl, by decide, 0, 0, Nat.zero_le _, Nat.zero_le _, ?_⟩
        refine r_mz (X := v :: D) (D := D) hsp h0 hH hnc hA ⟨hZ.1, hZ.2.1, sub3, hZ.2.2.2⟩ (vls ov List.mem_cons_self) (fun S' M' gx' hin hZ' hc => f_131_296 hE ?_)
        have vM' : v ∈ M' := by
          obtain ⟨N2, n2, -⟩ := gx'
          rw [n2]; exact List.mem_append_right _ vM
        have hp' : gD H M' v = 16 + xSzA H D := (gx'.at vM).trans hp
        refine ⟨by rw [hc.1]; exact o2, by rw [hc.2.1, o3]; exact vp_in_nI (by omega) (by decide), ?_⟩
        rw [nI_clamp (show 16 + xSzA H D + 1 < 2 ^ 31 by omega), nI_add]
        have hW := hZ'.wo (i := 16 + xSzA H D + 1) (w := gV (gD H M') ov) vM' vD (by omega) (by omega)
        have er : ∀ j, (S'.wI (m + (5 - ce)) (16 + xSzA H D + 1) (gV (gD H M') ov)).rI (m + (5 - ce)) j = if j = 16 + xSzA H D + 1 then gV (gD H M') ov else S'.rI (m + (5 - ce)) j := fun j => by
          rw [or_wI_rI]
          simp only [true_and]
        have lo : ∀ j, j < 16 + xSzA H D + 3 → S'.rI (m + (5 - ce)) j = U.rI (m + (5 - ce)) j := fun j hj => hc.2.2.2.2.2.2.2.2.2 j (by omega)
        refine nxt _ M' _ _ gx' ⟨hW.1, hW.2.1, hW.2.2.1, fun u hu => ?_⟩ ((ph.no hc).oth)
        rcases List.mem_cons.mp hu with z | z
        · rw [z]
          refine ⟨vM', _, e1, ⟨by rw [hp']; exact g2.1, ?_⟩, fun u hu => ?_⟩
          · rw [hp']
            refine ⟨?_, ?_, ?_⟩
            · rw [er, if_neg (by omega), lo _ (by omega)]; exact tgU.1
            · rw [er, if_pos rfl]
            · rw [er, if_neg (by omega), lo _ (by omega), raw' 2 (by omega)]; exact t3
          · have e : u = ov := List.mem_singleton.mp hu
            rw [e]; exact hin
        · exact hW.2.2.2 u z
end GC4
