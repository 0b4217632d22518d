section OZL
variable {l : Launch} {D : va_G} {y : Nat → ClassId} {b : Nat} {ro : ox_St} {d : Nat}
def oz_E0 : ox_E := fun _ _ _ _ _ _ => False
theorem oz_E0_ok : ∀ j as mc ms S Q, oz_E0 j as mc ms S Q → ox_Met l D y b ro d j as mc ms S Q := fun _ _ _ _ _ _ h => h.elim
theorem oz_m236 {x mc ms : Nat} {S : ox_St} {Q : ox_Q} (hKx : S.K x = 13) (h : oz_Met l D y b ro (d + 1) 96 [.inr (.inr x)] mc ms S (fun r S' => r = none ∧ Q (some (.inl 0)) S') (fun E S' => (E = oz_IA ∧ Q (some (.inl 1)) S') ∨ (E = oz_IS ∧ Q (some (.inl 2)) S'))) :
    Met l oz_yR (oz_wR :: ox_T0) (ox_rm (d + 2) mc ms) (oz_Pl D y b ro [.inr (.inr x)] S) (ox_Qc D y b ro Q) mc ms (fun q => b ≤ q) := by
  refine va_MetW (cc := method_3_code) (maxL := 2) (ret := some .int) (hh := oz_hR) (by decide) rfl ?_
  intro p e s m args below meth c s₁ B hml hv
  obtain ⟨⟨⟨rfl, hW, hK⟩, hZ⟩, hN1, hN2⟩ := hv
  have hts0 := atoms_spec B.pre
  have hts : ∀ w ∈ ox_T0, w.before ([Sum.inr (Sum.inr x)].map ox_val).toArray s = true := fun w hw => hts0 w (List.mem_cons_of_mem _ hw)
  have hown : s.vm.findClass "OpcodeFramesLaw" = some m.cls := findClass_of_methodNamed B.named
  have htab : c.exceptionTable.toList = tableOf oz_hR := vx_table (x := oz_yR) B (hts0 _ List.mem_cons_self)
  have C : oz_Cx D y b ro p s m ([Sum.inr (Sum.inr x)].map ox_val).toArray meth c 2 method_3_code (some .int) "OpcodeFramesLaw" := ⟨B.exec, B.bytes, hml, B.returns, B.notSynchronized, hown, hts, hK, hZ⟩
  have seg := fun (stop : List Nat) => oz_seg_ok (E := oz_E0) (meth := meth) (l := l) (e := e) (below := below) (R := ox_rm (d + 2) mc ms) (Q := MQ below (ox_Qc D y b ro Q) ([Sum.inr (Sum.inr x)].map ox_val).toArray s mc ms (fun q => b ≤ q)) (d := d + 1) B.exec B.bytes hml hown hts hK ⟨Nat.le_refl _, Nat.le_refl _⟩ oz_E0_ok (code := oz_c236) (by decide +kernel) (stop := stop) (fun _ _ _ _ _ _ h => h)
  rw [lg_entry_eq]
  have hent := lv_entry ([Sum.inr (Sum.inr x)].map ox_val) (n := 2) (by rw [ox_sl_len]; exact (show 1 + 0 ≤ 2 by decide))
  generalize (lg_sl ([Sum.inr (Sum.inr x)].map ox_val) ++ List.replicate (2 - (lg_sl ([Sum.inr (Sum.inr x)].map ox_val)).length) Slot.unset).toArray = ls at hent ⊢
  have hl : ox_lh ls 2 (ox_loc 2 [.inr (.inr x)]) := by
    refine ⟨hent.1, hent.2.1, fun i v hi => ?_⟩
    have := ox_get_args [.inr (.inr x)] _ 0 i v hi
    rw [Nat.zero_add] at this
    exact hent.2.2 _ this
  suffices main : ox_X p l e (ox_rm (d + 2) mc ms) s m ([Sum.inr (Sum.inr x)].map ox_val).toArray below meth c (MQ below (ox_Qc D y b ro Q) ([Sum.inr (Sum.inr x)].map ox_val).toArray s mc ms (fun q => b ≤ q)) D y b ro 2 0 (ox_loc 2 [.inr (.inr x)]) [] S mc ms from
    main s.heap [] 0 0 ls hW va_S.rf hl (Nat.le_of_eq (Nat.zero_add mc)) (Nat.le_of_eq (Nat.zero_add ms))
  refine seg [1] 3 0 _ _ _ _ _ ?_
  have hc1 := va_Nw.use (A := ([Sum.inr (Sum.inr x)].map ox_val).toArray) rfl (hZ.2.2.2.2.2.2 _ oz_ca1 rfl)
  have hc2 := va_Nw.use (A := ([Sum.inr (Sum.inr x)].map ox_val).toArray) rfl (hZ.2.2.2.2.2.2 _ oz_ca2 rfl)
  refine oz_invX (d := d + 1) (st := [.inr (.inr x)]) (n := 1) (j := 96) (q := 13) (ix := 7) C ⟨Nat.le_refl _, Nat.le_refl _⟩ (p1 := 519) (p2 := 520) (p3 := 521) (p4 := 125) (by decide +kernel) (by decide +kernel) (Nat.le_refl 1) hKx (show 0 ≤ 8 by decide) (Nat.le_refl mc) (Nat.le_refl ms) h ?_ ?_
  · rintro r S' ⟨rfl, hq⟩
    refine seg [14] 4 4 _ _ _ _ _ ?_
    exact oz_reti C (by decide +kernel) hq
  · rintro E S' (⟨rfl, hq⟩ | ⟨rfl, hq⟩) H locs cells slots ls q ce hW hS hl h1 h2 hce hcv hcl
    · refine oz_catch (name := oz_IA) hown [] ⟨0, 4, 7, 12⟩ [⟨0, 4, 10, 14⟩] htab (fun z hz => nomatch hz) (by decide) (by decide) (hts _ oz_cl12) hc1 hce hcv hcl ?_
      refine oz_handler B.exec B.bytes (j := 1) (nL := 2) (by decide) (by decide +kernel) ?_ hW hS hl h1 h2
      refine seg [9] 4 8 _ _ _ _ _ ?_
      exact oz_reti C (by decide +kernel) hq
    · refine oz_catch (name := oz_IS) hown [⟨0, 4, 7, 12⟩] ⟨0, 4, 10, 14⟩ [] htab (fun z hz => ?_) (by decide) (by decide) (hts _ oz_cl14) hc2 hce hcv hcl ?_
      · obtain rfl := List.mem_singleton.mp hz
        exact ⟨by decide, by decide, oz_IA, hts _ oz_cl12, hN2⟩
      · refine oz_handler B.exec B.bytes (j := 1) (nL := 2) (by decide) (by decide +kernel) ?_ hW hS hl h1 h2
        refine seg [12] 4 11 _ _ _ _ _ ?_
        exact oz_reti C (by decide +kernel) hq
theorem oz_m237 {x o mc ms : Nat} {v : Int32} {S : ox_St} {Q : ox_Q} (hKx : S.K x = 13) (h : oz_Met l D y b ro (d + 1) 98 [.inr (.inr x), .inl v] mc ms S (fun r S' => ∃ w, r = some (.inl w) ∧ S'.K o = 16 ∧ 0 < S'.len o ∧ Q (some (.inl 0)) (S'.wJ o 0 w.toInt64)) (fun E S' => (E = oz_IS ∧ Q (some (.inl 1)) S') ∨ (E = oz_IA ∧ Q (some (.inl 2)) S'))) :
    Met l oz_yU (oz_wU :: ox_T0) (ox_rm (d + 2) mc ms) (oz_Pl D y b ro [.inr (.inr x), .inl v, .inr (.inr o)] S) (ox_Qc D y b ro Q) mc ms (fun q => b ≤ q) := by
  refine va_MetW (cc := method_4_code) (maxL := 4) (ret := some .int) (hh := oz_hU) (by decide) rfl ?_
  intro p e s m args below meth c s₁ B hml hv
  obtain ⟨⟨⟨rfl, hW, hK⟩, hZ⟩, hN1, hN2⟩ := hv
  have hts0 := atoms_spec B.pre
  have hts : ∀ w ∈ ox_T0, w.before ([Sum.inr (Sum.inr x), .inl v, .inr (.inr o)].map ox_val).toArray s = true := fun w hw => hts0 w (List.mem_cons_of_mem _ hw)
  have hown : s.vm.findClass "OpcodeFramesLaw" = some m.cls := findClass_of_methodNamed B.named
  have htab : c.exceptionTable.toList = tableOf oz_hU := vx_table (x := oz_yR) B (hts0 _ List.mem_cons_self)
  have C : oz_Cx D y b ro p s m ([Sum.inr (Sum.inr x), .inl v, .inr (.inr o)].map ox_val).toArray meth c 4 method_4_code (some .int) "OpcodeFramesLaw" := ⟨B.exec, B.bytes, hml, B.returns, B.notSynchronized, hown, hts, hK, hZ⟩
  have seg := fun (stop : List Nat) => oz_seg_ok (E := oz_E0) (meth := meth) (l := l) (e := e) (below := below) (R := ox_rm (d + 2) mc ms) (Q := MQ below (ox_Qc D y b ro Q) ([Sum.inr (Sum.inr x), .inl v, .inr (.inr o)].map ox_val).toArray s mc ms (fun q => b ≤ q)) (d := d + 1) B.exec B.bytes hml hown hts hK ⟨Nat.le_refl _, Nat.le_refl _⟩ oz_E0_ok (code := oz_c237) (by decide +kernel) (stop := stop) (fun _ _ _ _ _ _ h => h)
  rw [lg_entry_eq]
  have hent := lv_entry ([Sum.inr (Sum.inr x), .inl v, .inr (.inr o)].map ox_val) (n := 4) (by rw [ox_sl_len]; exact (show 1 + (1 + (1 + 0)) ≤ 4 by decide))
  generalize (lg_sl ([Sum.inr (Sum.inr x), .inl v, .inr (.inr o)].map ox_val) ++ List.replicate (4 - (lg_sl ([Sum.inr (Sum.inr x), .inl v, .inr (.inr o)].map ox_val)).length) Slot.unset).toArray = ls at hent ⊢
  have hl : ox_lh ls 4 (ox_loc 4 [.inr (.inr x), .inl v, .inr (.inr o)]) := by
    refine ⟨hent.1, hent.2.1, fun i v' hi => ?_⟩
    have := ox_get_args [.inr (.inr x), .inl v, .inr (.inr o)] _ 0 i v' hi
    rw [Nat.zero_add] at this
    exact hent.2.2 _ this
  suffices main : ox_X p l e (ox_rm (d + 2) mc ms) s m ([Sum.inr (Sum.inr x), .inl v, .inr (.inr o)].map ox_val).toArray below meth c (MQ below (ox_Qc D y b ro Q) ([Sum.inr (Sum.inr x), .inl v, .inr (.inr o)].map ox_val).toArray s mc ms (fun q => b ≤ q)) D y b ro 4 0 (ox_loc 4 [.inr (.inr x), .inl v, .inr (.inr o)]) [] S mc ms from
    main s.heap [] 0 0 ls hW va_S.rf hl (Nat.le_of_eq (Nat.zero_add mc)) (Nat.le_of_eq (Nat.zero_add ms))
  refine seg [4] 6 0 _ _ _ _ _ ?_
  have hc1 := va_Nw.use (A := ([Sum.inr (Sum.inr x), .inl v, .inr (.inr o)].map ox_val).toArray) rfl (hZ.2.2.2.2.2.2 _ oz_ca1 rfl)
  have hc2 := va_Nw.use (A := ([Sum.inr (Sum.inr x), .inl v, .inr (.inr o)].map ox_val).toArray) rfl (hZ.2.2.2.2.2.2 _ oz_ca2 rfl)
  refine oz_invX (d := d + 1) (st := [.inl v, .inr (.inr x), .inl 0, .inr (.inr o)]) (n := 2) (j := 98) (q := 13) (ix := 16) C ⟨Nat.le_refl _, Nat.le_refl _⟩ (p1 := 870) (p2 := 871) (p3 := 872) (p4 := 125) (by decide +kernel) (by decide +kernel) (show 2 ≤ 4 by decide) hKx (show 1 + (1 + 0) ≤ 8 by decide) (Nat.le_refl mc) (Nat.le_refl ms) h ?_ ?_
  · rintro r S' ⟨w, rfl, h16, hlo, hq⟩
    refine seg [19] 6 7 _ _ _ _ _ ⟨h16, fun hh => ?_, ?_⟩
    · rcases hh with hh | hh
      · exact absurd hh (by decide)
      · exact absurd hh (Nat.not_le.mpr hlo)
    · exact oz_reti C (by decide +kernel) hq
  · rintro E S' (⟨rfl, hq⟩ | ⟨rfl, hq⟩) H locs cells slots ls q ce hW hS hl h1 h2 hce hcv hcl
    · refine oz_catch (name := oz_IS) hown [] ⟨0, 9, 12, 14⟩ [⟨0, 9, 15, 12⟩] htab (fun z hz => nomatch hz) (by decide) (by decide) (hts _ oz_cl14) hc2 hce hcv hcl ?_
      refine oz_handler B.exec B.bytes (j := 3) (nL := 4) (by decide) (by decide +kernel) ?_ hW hS hl h1 h2
      refine seg [14] 4 13 _ _ _ _ _ ?_
      exact oz_reti C (by decide +kernel) hq
    · refine oz_catch (name := oz_IA) hown [⟨0, 9, 12, 14⟩] ⟨0, 9, 15, 12⟩ [] htab (fun z hz => ?_) (by decide) (by decide) (hts _ oz_cl12) hc1 hce hcv hcl ?_
      · obtain rfl := List.mem_singleton.mp hz
        exact ⟨by decide, by decide, oz_IS, hts _ oz_cl14, hN1⟩
      · refine oz_handler B.exec B.bytes (j := 3) (nL := 4) (by decide) (by decide +kernel) ?_ hW hS hl h1 h2
        refine seg [17] 4 16 _ _ _ _ _ ?_
        exact oz_reti C (by decide +kernel) hq
end OZL
