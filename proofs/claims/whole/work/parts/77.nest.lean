def at_game (D : va_G) (Y : Nat → ClassId) (h0 hc : Nat) (A : Nat → Prop) : Nat × Nat × Nat × Nat × Nat × Nat × Nat × Nat → State → Prop := fun (q32, q38, p43_q12, p43_q20, p43_q28, p43_q36, p43_q44, p43_q51) t => va_P D vwCl [(h0, .inr (1, [.ref q38, .int 0, .int (-1), .int 0, .int (-1), .int 0, .ref q32])), (q32, .inl (Y 0, 6, .inl z0A)), (q38, .inr (6, [.ref hc, .int 0, .ref p43_q12, .ref p43_q20, .ref p43_q28, .ref p43_q36, .ref p43_q44, .ref p43_q51])), (p43_q12, .inl (Y 0, 6, .inl z0A)), (p43_q20, .inl (Y 0, 6, .inl z0A)), (p43_q28, .inl (Y 0, 6, .inl z0A)), (p43_q36, .inl (Y 0, 6, .inl z0A)), (p43_q44, .inl (Y 1, 6, .inl z0A)), (p43_q51, .inl (Y 0, 2, .inl z0A))] t.heap ∧ va_K D vwCl (yT Y) t ∧ va_D A [(h0, .inr (1, [.ref q38, .int 0, .int (-1), .int 0, .int (-1), .int 0, .ref q32])), (q32, .inl (Y 0, 6, .inl z0A)), (q38, .inr (6, [.ref hc, .int 0, .ref p43_q12, .ref p43_q20, .ref p43_q28, .ref p43_q36, .ref p43_q44, .ref p43_q51])), (p43_q12, .inl (Y 0, 6, .inl z0A)), (p43_q20, .inl (Y 0, 6, .inl z0A)), (p43_q28, .inl (Y 0, 6, .inl z0A)), (p43_q36, .inl (Y 0, 6, .inl z0A)), (p43_q44, .inl (Y 1, 6, .inl z0A)), (p43_q51, .inl (Y 0, 2, .inl z0A))]
set_option maxRecDepth 100000 in
theorem c_game (l : Launch) (D : va_G) (Y : Nat → ClassId) (h0 hc sz : Nat) : Met l (mY 13) (mW 13) ({ frames := 2, cells := 8, slots := 46, locals := 60 }) (va_Pc [.ref h0, .ref hc] (fun U => U.heap.size = sz ∧ va_P D vwCl [(h0, .inr (1, [.null, .int 0, .int 0, .int 0, .int 0, .int 0, .null]))] U.heap ∧ va_K D vwCl (yT Y) U ∧ va_D (fun _ => True) [(h0, .inr (1, [.null, .int 0, .int 0, .int 0, .int 0, .int 0, .null]))])) (va_Qv (fun _ : Nat × Nat × Nat × Nat × Nat × Nat × Nat × Nat => True) (at_game D Y h0 hc (va_A [(h0, .inr (1, [.null, .int 0, .int 0, .int 0, .int 0, .int 0, .null]))] sz)) (va_A [(h0, .inr (1, [.null, .int 0, .int 0, .int 0, .int 0, .int 0, .null]))] sz)) 8 46 (va_A [(h0, .inr (1, [.null, .int 0, .int 0, .int 0, .int 0, .int 0, .null]))] sz) := by
  refine Met.ofW (cc := mC 13) (maxL := 2) (ret := none) (by decide) rfl ?_
  intro p e s m args below meth c s₁ B hml hv
  obtain ⟨rfl, hsz, hP, hK, hD0⟩ := hv
  have hx := B.exec
  have hb := B.bytes
  have hr := B.returns
  have hts := atoms_spec (ws := mW 13) B.pre
  have hts1 := fun w (hw : w ∈ lwG) => hts w (List.mem_cons_of_mem _ hw)
  have hown : s.vm.findClass "TinSoldiers$Game" = some m.cls := findClass_of_methodNamed B.named
  have hlocks := B.notSynchronized
  have hin : meth.name = "<init>" := (name_of_methodNamed B.named B.method).1
  subst hsz
  have hD := hD0.self (sz := s.heap.size)
  generalize hAe : va_A [(h0, .inr (1, [.null, .int 0, .int 0, .int 0, .int 0, .int 0, .null]))] s.heap.size = A at hD ⊢
  have hA : ∀ q : Nat, s.heap.size ≤ q → A q := fun q h => by rw [← hAe]; exact Or.inr h
  have hS : va_S A s.heap s.heap [] := va_S.rf
  have hl := lv_entry ([.ref h0, .ref hc]) (n := 2) (Nat.le_of_ble_eq_true rfl)
  rw [lg_entry_eq]
  generalize (lg_sl ([.ref h0, .ref hc]) ++ List.replicate (2 - (lg_sl ([.ref h0, .ref hc])).length) Slot.unset).toArray = ls at hl ⊢
  have hl : lv_has ls 2 [(0, .ref h0), (1, .ref hc)] := hl
  refine lv_aload_n hx hb (show decode (mC 13) 0 = .ok (.aload_n 0, 1) by decide +kernel) rfl (lv_at hl 0 rfl) ?_
  refine W.objInit hx hb hown (hts _ (List.mem_cons_of_mem _ (lwG_at (i := 135) (by decide +kernel) rfl))) (hts _ (List.mem_cons_of_mem _ (lwG_at (i := 85) (by decide +kernel) rfl))) (hts _ (List.mem_cons_of_mem _ (lwG_at (i := 86) (by decide +kernel) rfl))) rfl (by rw [hml]; exact hl.1) rfl (show decode (mC 13) 1 = .ok (.invokespecial 3, 3) by decide +kernel) (Nat.le_of_ble_eq_true rfl) (Nat.le_of_ble_eq_true rfl) ?_
  refine W.eq (g2 := F0 m 4 ls []) rfl ?_
  refine lv_aload_n hx hb (show decode (mC 13) 4 = .ok (.aload_n 0, 1) by decide +kernel) rfl (lv_at hl 0 rfl) ?_
  refine lv_iconst (v := 0) hx hb (show decode (mC 13) 5 = .ok (.iconst 0, 1) by decide +kernel) (by decide) ?_
  refine va_put (D := D) (ci := 1) (v := .int 0) (ty := .int) (C := oS 1) (T := TT 1) (N := nF 1) hx hb hts (fun w hw => List.mem_cons_of_mem _ (uw1 w hw)) (tyT 1) (ty_at 1 (by omega)) (nm_at 1 (by omega)) hown hK hP hD hS 0 rfl rfl 1 (by decide) (hts _ (List.mem_cons_of_mem _ (lwG_at (i := 186) (by decide +kernel) rfl))) (fun _ h9 => h9) rfl (by decide +kernel) rfl rfl (Nat.le_of_ble_eq_true rfl) (show decode (mC 13) 6 = .ok (.putfield 9, 3) by decide +kernel) (fun H locs hP hD hS => ?_)
  have hP : va_P D vwCl [(h0, .inr (1, [.null, .int 0, .int 0, .int 0, .int 0, .int 0, .null]))] H := hP
  have hD : va_D A [(h0, .inr (1, [.null, .int 0, .int 0, .int 0, .int 0, .int 0, .null]))] := hD
  refine lv_aload_n hx hb (show decode (mC 13) 9 = .ok (.aload_n 0, 1) by decide +kernel) rfl (lv_at hl 0 rfl) ?_
  refine lv_iconst (v := (-1)) hx hb (show decode (mC 13) 10 = .ok (.iconst (-1), 1) by decide +kernel) (by decide) ?_
  refine va_put (D := D) (ci := 1) (v := .int (-1)) (ty := .int) (C := oS 1) (T := TT 1) (N := nF 1) hx hb hts (fun w hw => List.mem_cons_of_mem _ (uw1 w hw)) (tyT 1) (ty_at 1 (by omega)) (nm_at 1 (by omega)) hown hK hP hD hS 0 rfl rfl 2 (by decide) (hts _ (List.mem_cons_of_mem _ (lwG_at (i := 188) (by decide +kernel) rfl))) (fun _ h9 => h9) rfl (by decide +kernel) rfl rfl (Nat.le_of_ble_eq_true rfl) (show decode (mC 13) 11 = .ok (.putfield 15, 3) by decide +kernel) (fun H locs hP hD hS => ?_)
  have hP : va_P D vwCl [(h0, .inr (1, [.null, .int 0, .int (-1), .int 0, .int 0, .int 0, .null]))] H := hP
  have hD : va_D A [(h0, .inr (1, [.null, .int 0, .int (-1), .int 0, .int 0, .int 0, .null]))] := hD
  refine lv_aload_n hx hb (show decode (mC 13) 14 = .ok (.aload_n 0, 1) by decide +kernel) rfl (lv_at hl 0 rfl) ?_
  refine lv_iconst (v := 0) hx hb (show decode (mC 13) 15 = .ok (.iconst 0, 1) by decide +kernel) (by decide) ?_
  refine va_put (D := D) (ci := 1) (v := .int 0) (ty := .int) (C := oS 1) (T := TT 1) (N := nF 1) hx hb hts (fun w hw => List.mem_cons_of_mem _ (uw1 w hw)) (tyT 1) (ty_at 1 (by omega)) (nm_at 1 (by omega)) hown hK hP hD hS 0 rfl rfl 3 (by decide) (hts _ (List.mem_cons_of_mem _ (lwG_at (i := 189) (by decide +kernel) rfl))) (fun _ h9 => h9) rfl (by decide +kernel) rfl rfl (Nat.le_of_ble_eq_true rfl) (show decode (mC 13) 16 = .ok (.putfield 18, 3) by decide +kernel) (fun H locs hP hD hS => ?_)
  have hP : va_P D vwCl [(h0, .inr (1, [.null, .int 0, .int (-1), .int 0, .int 0, .int 0, .null]))] H := hP
  have hD : va_D A [(h0, .inr (1, [.null, .int 0, .int (-1), .int 0, .int 0, .int 0, .null]))] := hD
  refine lv_aload_n hx hb (show decode (mC 13) 19 = .ok (.aload_n 0, 1) by decide +kernel) rfl (lv_at hl 0 rfl) ?_
  refine lv_iconst (v := (-1)) hx hb (show decode (mC 13) 20 = .ok (.iconst (-1), 1) by decide +kernel) (by decide) ?_
  refine va_put (D := D) (ci := 1) (v := .int (-1)) (ty := .int) (C := oS 1) (T := TT 1) (N := nF 1) hx hb hts (fun w hw => List.mem_cons_of_mem _ (uw1 w hw)) (tyT 1) (ty_at 1 (by omega)) (nm_at 1 (by omega)) hown hK hP hD hS 0 rfl rfl 4 (by decide) (hts _ (List.mem_cons_of_mem _ (lwG_at (i := 191) (by decide +kernel) rfl))) (fun _ h9 => h9) rfl (by decide +kernel) rfl rfl (Nat.le_of_ble_eq_true rfl) (show decode (mC 13) 21 = .ok (.putfield 21, 3) by decide +kernel) (fun H locs hP hD hS => ?_)
  have hP : va_P D vwCl [(h0, .inr (1, [.null, .int 0, .int (-1), .int 0, .int (-1), .int 0, .null]))] H := hP
  have hD : va_D A [(h0, .inr (1, [.null, .int 0, .int (-1), .int 0, .int (-1), .int 0, .null]))] := hD
  refine lv_aload_n hx hb (show decode (mC 13) 24 = .ok (.aload_n 0, 1) by decide +kernel) rfl (lv_at hl 0 rfl) ?_
  refine lv_iconst (v := 0) hx hb (show decode (mC 13) 25 = .ok (.iconst 0, 1) by decide +kernel) (by decide) ?_
  refine va_put (D := D) (ci := 1) (v := .int 0) (ty := .int) (C := oS 1) (T := TT 1) (N := nF 1) hx hb hts (fun w hw => List.mem_cons_of_mem _ (uw1 w hw)) (tyT 1) (ty_at 1 (by omega)) (nm_at 1 (by omega)) hown hK hP hD hS 0 rfl rfl 5 (by decide) (hts _ (List.mem_cons_of_mem _ (lwG_at (i := 193) (by decide +kernel) rfl))) (fun _ h9 => h9) rfl (by decide +kernel) rfl rfl (Nat.le_of_ble_eq_true rfl) (show decode (mC 13) 26 = .ok (.putfield 24, 3) by decide +kernel) (fun H locs hP hD hS => ?_)
  have hP : va_P D vwCl [(h0, .inr (1, [.null, .int 0, .int (-1), .int 0, .int (-1), .int 0, .null]))] H := hP
  have hD : va_D A [(h0, .inr (1, [.null, .int 0, .int (-1), .int 0, .int (-1), .int 0, .null]))] := hD
  refine lv_aload_n hx hb (show decode (mC 13) 29 = .ok (.aload_n 0, 1) by decide +kernel) rfl (lv_at hl 0 rfl) ?_
  refine lv_bipush (v := 6) hx hb (show decode (mC 13) 30 = .ok (.bipush 6, 2) by decide +kernel) (by decide) ?_
  refine nwa (Y := Y 0) (a0 := (6, .inl z0A)) (ty := .int) hx hb (hts _ (List.mem_cons_of_mem _ (lwG_at (i := 129) (by decide +kernel) rfl))) rfl hK hP hD hS hA 0 rfl (fun _ => rfl) (by decide) (by decide) (by decide) (Nat.le_of_ble_eq_true rfl) (Nat.le_of_ble_eq_true rfl) (show decode (mC 13) 32 = .ok (.newarray .int, 2) by decide +kernel) (fun q32 H hP hD hS => ?_)
  have hP : va_P D vwCl [(h0, .inr (1, [.null, .int 0, .int (-1), .int 0, .int (-1), .int 0, .null])), (q32, .inl (Y 0, 6, .inl z0A))] H := hP
  have hD : va_D A [(h0, .inr (1, [.null, .int 0, .int (-1), .int 0, .int (-1), .int 0, .null])), (q32, .inl (Y 0, 6, .inl z0A))] := hD
  refine W.widen (k := 1) (n := 6) (by decide) (by decide) ?_
  refine va_putF (D := D) (ci := 1) (v := .ref q32) (ty := (.array .int)) (C := oS 1) (T := TT 1) (N := nF 1) hx hb hts (fun w hw => List.mem_cons_of_mem _ (uw1 w hw)) (tyT 1) (ty_at 1 (by omega)) (nm_at 1 (by omega)) hown hK hP hD hS 0 rfl rfl 6 (by decide) (hts _ (List.mem_cons_of_mem _ (lwG_at (i := 196) (by decide +kernel) rfl))) (fun _ h9 => h9) rfl hin rfl (by decide +kernel) rfl rfl (Nat.le_of_ble_eq_true rfl) (show decode (mC 13) 34 = .ok (.putfield 27, 3) by decide +kernel) (fun H locs hP hD hS => ?_)
  have hP : va_P D vwCl [(h0, .inr (1, [.null, .int 0, .int (-1), .int 0, .int (-1), .int 0, .ref q32])), (q32, .inl (Y 0, 6, .inl z0A))] H := hP
  have hD : va_D A [(h0, .inr (1, [.null, .int 0, .int (-1), .int 0, .int (-1), .int 0, .ref q32])), (q32, .inl (Y 0, 6, .inl z0A))] := hD
  refine lv_aload_n hx hb (show decode (mC 13) 37 = .ok (.aload_n 0, 1) by decide +kernel) rfl (lv_at hl 0 rfl) ?_
  refine va_new (ci := 6) (fs := [.null, .int 0, .null, .null, .null, .null, .null, .null]) (C := oS 6) (T := TT 6) (N := nF 6) hx hb hts (fun w hw => List.mem_cons_of_mem _ (uw6 w hw)) (tyT 6) (ty_at 6 (by omega)) hown (hts _ (List.mem_cons_of_mem _ (lwG_at (i := 136) (by decide +kernel) rfl))) (hts _ (List.mem_cons_of_mem _ (lwG_at (i := 137) (by decide +kernel) rfl))) (hts _ (List.mem_cons_of_mem _ (lwG_at (i := 64) (by decide +kernel) rfl))) hK hP hD hS hA rfl (fun j hj => by rcases (show j = 0 ∨ j = 1 ∨ j = 2 ∨ j = 3 ∨ j = 4 ∨ j = 5 ∨ j = 6 ∨ j = 7 by have h9 : j < 8 := hj; omega) with rfl | rfl | rfl | rfl | rfl | rfl | rfl | rfl <;> rfl) (Nat.le_of_ble_eq_true rfl) (Nat.le_of_ble_eq_true rfl) (show decode (mC 13) 38 = .ok (.new 31, 3) by decide +kernel) (fun q38 H hP hD hS => ?_)
  have hP : va_P D vwCl [(h0, .inr (1, [.null, .int 0, .int (-1), .int 0, .int (-1), .int 0, .ref q32])), (q32, .inl (Y 0, 6, .inl z0A)), (q38, .inr (6, [.null, .int 0, .null, .null, .null, .null, .null, .null]))] H := hP
  have hD : va_D A [(h0, .inr (1, [.null, .int 0, .int (-1), .int 0, .int (-1), .int 0, .ref q32])), (q32, .inl (Y 0, 6, .inl z0A)), (q38, .inr (6, [.null, .int 0, .null, .null, .null, .null, .null, .null]))] := hD
  refine W.widen (k := 2) (n := 14) (by decide) (by decide) ?_
  refine lv_dup hx hb (show decode (mC 13) 41 = .ok (.dup, 1) by decide +kernel) rfl ?_
  refine lv_aload_n hx hb (show decode (mC 13) 42 = .ok (.aload_n 1, 1) by decide +kernel) rfl (lv_at hl 1 rfl) ?_
  have hPc := hP.sub (ws' := [(q38, .inr (6, [.null, .int 0, .null, .null, .null, .null, .null, .null]))]) [2] rfl
  have hDc := hD.sub (ws' := [(q38, .inr (6, [.null, .int 0, .null, .null, .null, .null, .null, .null]))]) [2] (by decide) rfl
  have hFc := va_free (wc := [(q38, .inr (6, [.null, .int 0, .null, .null, .null, .null, .null, .null]))]) hD hS hA [2] rfl
  refine va_callv (va_runI (As := [.ref hc]) (rest := [.ref q38, .ref h0]) ⟨hx, hb, hml, hown, hts1⟩ (c_troops l D Y q38 hc H.size) (cwI 1 hts1 (goodM (lwG_at (i := 140) (by decide +kernel) rfl)) rfl rfl rfl (hts _ (List.mem_cons_of_mem _ (lwG_at (i := 64) (by decide +kernel) rfl))) (hts _ (List.mem_cons_of_mem _ (lwG_at (i := 138) (by decide +kernel) rfl))) (hts _ (List.mem_cons_of_mem _ (lwG_at (i := 139) (by decide +kernel) rfl))) rfl (by decide +kernel) ⟨Nat.le_of_ble_eq_true rfl, Nat.le_of_ble_eq_true rfl⟩) ⟨fun a U g mk q => by obtain ⟨q0, q1, qP, qK, qD⟩ := q; exact ⟨q0, q1, qP, va_K.moved (u := U) (U := U.calling g mk a) (Vm.Alike.refl U.vm) qK, qD⟩, fun U hU hW => ⟨rfl, by rw [hU], by rw [hU]; exact hPc, va_K.moved hW.alike hK, hDc.weaken (fun _ _ _ _ => trivial)⟩⟩ rfl rfl hl.1 rfl (lv_room (Nat.le_of_ble_eq_true rfl)) (show decode (mC 13) 43 = .ok (.invokespecial 33, 3) by decide +kernel) ⟨Nat.le_of_ble_eq_true rfl, Nat.le_of_ble_eq_true rfl⟩) hS (fun q _ h => hFc q h) hFc (fun u t H1 locs ht hvm h5 hB hz1 hk1 hS => ?_)
  obtain ⟨p43_q12, p43_q20, p43_q28, p43_q36, p43_q44, p43_q51⟩ := u
  obtain ⟨hP1, hK1, hD1⟩ := hB
  rw [ht] at hP1
  obtain ⟨hP, hD⟩ := va_join (wr := [(h0, .inr (1, [.null, .int 0, .int (-1), .int 0, .int (-1), .int 0, .ref q32])), (q32, .inl (Y 0, 6, .inl z0A))]) (w1 := [(q38, .inr (6, [.ref hc, .int 0, .ref p43_q12, .ref p43_q20, .ref p43_q28, .ref p43_q36, .ref p43_q44, .ref p43_q51])), (p43_q12, .inl (Y 0, 6, .inl z0A)), (p43_q20, .inl (Y 0, 6, .inl z0A)), (p43_q28, .inl (Y 0, 6, .inl z0A)), (p43_q36, .inl (Y 0, 6, .inl z0A)), (p43_q44, .inl (Y 1, 6, .inl z0A)), (p43_q51, .inl (Y 0, 2, .inl z0A))]) hP hD [2] [0, 1] rfl rfl (by decide) (by decide) hk1 hFc hP1 hD1
  clear hPc hDc hFc hP1 hD1 hK1
  generalize H1 = H at hP hS ⊢
  have hP : va_P D vwCl [(h0, .inr (1, [.null, .int 0, .int (-1), .int 0, .int (-1), .int 0, .ref q32])), (q32, .inl (Y 0, 6, .inl z0A)), (q38, .inr (6, [.ref hc, .int 0, .ref p43_q12, .ref p43_q20, .ref p43_q28, .ref p43_q36, .ref p43_q44, .ref p43_q51])), (p43_q12, .inl (Y 0, 6, .inl z0A)), (p43_q20, .inl (Y 0, 6, .inl z0A)), (p43_q28, .inl (Y 0, 6, .inl z0A)), (p43_q36, .inl (Y 0, 6, .inl z0A)), (p43_q44, .inl (Y 1, 6, .inl z0A)), (p43_q51, .inl (Y 0, 2, .inl z0A))] H := hP
  have hD : va_D A [(h0, .inr (1, [.null, .int 0, .int (-1), .int 0, .int (-1), .int 0, .ref q32])), (q32, .inl (Y 0, 6, .inl z0A)), (q38, .inr (6, [.ref hc, .int 0, .ref p43_q12, .ref p43_q20, .ref p43_q28, .ref p43_q36, .ref p43_q44, .ref p43_q51])), (p43_q12, .inl (Y 0, 6, .inl z0A)), (p43_q20, .inl (Y 0, 6, .inl z0A)), (p43_q28, .inl (Y 0, 6, .inl z0A)), (p43_q36, .inl (Y 0, 6, .inl z0A)), (p43_q44, .inl (Y 1, 6, .inl z0A)), (p43_q51, .inl (Y 0, 2, .inl z0A))] := hD
  refine W.widen (k := 8) (n := 46) (by decide) (by decide) ?_
  refine va_putF (D := D) (ci := 1) (v := .ref q38) (ty := (.object "TinSoldiers$Troops")) (C := oS 1) (T := TT 1) (N := nF 1) hx hb hts (fun w hw => List.mem_cons_of_mem _ (uw1 w hw)) (tyT 1) (ty_at 1 (by omega)) (nm_at 1 (by omega)) hown hK hP hD hS 0 rfl rfl 0 (by decide) (hts _ (List.mem_cons_of_mem _ (lwG_at (i := 183) (by decide +kernel) rfl))) (fun _ h9 => h9) rfl hin rfl (by decide +kernel) rfl rfl (Nat.le_of_ble_eq_true rfl) (show decode (mC 13) 46 = .ok (.putfield 36, 3) by decide +kernel) (fun H locs hP hD hS => ?_)
  have hP : va_P D vwCl [(h0, .inr (1, [.ref q38, .int 0, .int (-1), .int 0, .int (-1), .int 0, .ref q32])), (q32, .inl (Y 0, 6, .inl z0A)), (q38, .inr (6, [.ref hc, .int 0, .ref p43_q12, .ref p43_q20, .ref p43_q28, .ref p43_q36, .ref p43_q44, .ref p43_q51])), (p43_q12, .inl (Y 0, 6, .inl z0A)), (p43_q20, .inl (Y 0, 6, .inl z0A)), (p43_q28, .inl (Y 0, 6, .inl z0A)), (p43_q36, .inl (Y 0, 6, .inl z0A)), (p43_q44, .inl (Y 1, 6, .inl z0A)), (p43_q51, .inl (Y 0, 2, .inl z0A))] H := hP
  have hD : va_D A [(h0, .inr (1, [.ref q38, .int 0, .int (-1), .int 0, .int (-1), .int 0, .ref q32])), (q32, .inl (Y 0, 6, .inl z0A)), (q38, .inr (6, [.ref hc, .int 0, .ref p43_q12, .ref p43_q20, .ref p43_q28, .ref p43_q36, .ref p43_q44, .ref p43_q51])), (p43_q12, .inl (Y 0, 6, .inl z0A)), (p43_q20, .inl (Y 0, 6, .inl z0A)), (p43_q28, .inl (Y 0, 6, .inl z0A)), (p43_q36, .inl (Y 0, 6, .inl z0A)), (p43_q44, .inl (Y 1, 6, .inl z0A)), (p43_q51, .inl (Y 0, 2, .inl z0A))] := hD
  exact W.vret hx hb hr (fun t ht hW => ⟨⟨(q32, q38, p43_q12, p43_q20, p43_q28, p43_q36, p43_q44, p43_q51), rfl, trivial, by rw [ht]; exact hP, va_K.moved hW.alike hK, hD⟩, hS.F ht⟩) hS.2.2 (show decode (mC 13) 49 = .ok (.return_, 1) by decide +kernel)
def at_trial (D : va_G) (Y : Nat → ClassId) (h0 hc : Nat) (A : Nat → Prop) : Nat × Nat × Nat × Nat × Nat × Nat × Nat → State → Prop := fun (q15, p20_q12, p20_q20, p20_q28, p20_q36, p20_q44, p20_q51) t => va_P D vwCl [(h0, .inr (5, [.ref q15, .int 0, .int 0])), (q15, .inr (6, [.ref hc, .int 0, .ref p20_q12, .ref p20_q20, .ref p20_q28, .ref p20_q36, .ref p20_q44, .ref p20_q51])), (p20_q12, .inl (Y 0, 6, .inl z0A)), (p20_q20, .inl (Y 0, 6, .inl z0A)), (p20_q28, .inl (Y 0, 6, .inl z0A)), (p20_q36, .inl (Y 0, 6, .inl z0A)), (p20_q44, .inl (Y 1, 6, .inl z0A)), (p20_q51, .inl (Y 0, 2, .inl z0A))] t.heap ∧ va_K D vwCl (yT Y) t ∧ va_D A [(h0, .inr (5, [.ref q15, .int 0, .int 0])), (q15, .inr (6, [.ref hc, .int 0, .ref p20_q12, .ref p20_q20, .ref p20_q28, .ref p20_q36, .ref p20_q44, .ref p20_q51])), (p20_q12, .inl (Y 0, 6, .inl z0A)), (p20_q20, .inl (Y 0, 6, .inl z0A)), (p20_q28, .inl (Y 0, 6, .inl z0A)), (p20_q36, .inl (Y 0, 6, .inl z0A)), (p20_q44, .inl (Y 1, 6, .inl z0A)), (p20_q51, .inl (Y 0, 2, .inl z0A))]
set_option maxRecDepth 100000 in
theorem c_trial (l : Launch) (D : va_G) (Y : Nat → ClassId) (h0 hc sz : Nat) : Met l (mY 54) (mW 54) ({ frames := 2, cells := 7, slots := 40, locals := 60 }) (va_Pc [.ref h0, .ref hc] (fun U => U.heap.size = sz ∧ va_P D vwCl [(h0, .inr (5, [.null, .int 0, .int 0]))] U.heap ∧ va_K D vwCl (yT Y) U ∧ va_D (fun _ => True) [(h0, .inr (5, [.null, .int 0, .int 0]))])) (va_Qv (fun _ : Nat × Nat × Nat × Nat × Nat × Nat × Nat => True) (at_trial D Y h0 hc (va_A [(h0, .inr (5, [.null, .int 0, .int 0]))] sz)) (va_A [(h0, .inr (5, [.null, .int 0, .int 0]))] sz)) 7 40 (va_A [(h0, .inr (5, [.null, .int 0, .int 0]))] sz) := by
  refine Met.ofW (cc := mC 54) (maxL := 2) (ret := none) (by decide) rfl ?_
  intro p e s m args below meth c s₁ B hml hv
  obtain ⟨rfl, hsz, hP, hK, hD0⟩ := hv
  have hx := B.exec
  have hb := B.bytes
  have hr := B.returns
  have hts := atoms_spec (ws := mW 54) B.pre
  have hts1 := fun w (hw : w ∈ lwG) => hts w (List.mem_cons_of_mem _ hw)
  have hown : s.vm.findClass "TinSoldiers$Trial" = some m.cls := findClass_of_methodNamed B.named
  have hlocks := B.notSynchronized
  have hin : meth.name = "<init>" := (name_of_methodNamed B.named B.method).1
  subst hsz
  have hD := hD0.self (sz := s.heap.size)
  generalize hAe : va_A [(h0, .inr (5, [.null, .int 0, .int 0]))] s.heap.size = A at hD ⊢
  have hA : ∀ q : Nat, s.heap.size ≤ q → A q := fun q h => by rw [← hAe]; exact Or.inr h
  have hS : va_S A s.heap s.heap [] := va_S.rf
  have hl := lv_entry ([.ref h0, .ref hc]) (n := 2) (Nat.le_of_ble_eq_true rfl)
  rw [lg_entry_eq]
  generalize (lg_sl ([.ref h0, .ref hc]) ++ List.replicate (2 - (lg_sl ([.ref h0, .ref hc])).length) Slot.unset).toArray = ls at hl ⊢
  have hl : lv_has ls 2 [(0, .ref h0), (1, .ref hc)] := hl
  refine lv_aload_n hx hb (show decode (mC 54) 0 = .ok (.aload_n 0, 1) by decide +kernel) rfl (lv_at hl 0 rfl) ?_
  refine W.objInit hx hb hown (hts _ (List.mem_cons_of_mem _ (lwG_at (i := 265) (by decide +kernel) rfl))) (hts _ (List.mem_cons_of_mem _ (lwG_at (i := 85) (by decide +kernel) rfl))) (hts _ (List.mem_cons_of_mem _ (lwG_at (i := 86) (by decide +kernel) rfl))) rfl (by rw [hml]; exact hl.1) rfl (show decode (mC 54) 1 = .ok (.invokespecial 3, 3) by decide +kernel) (Nat.le_of_ble_eq_true rfl) (Nat.le_of_ble_eq_true rfl) ?_
  refine W.eq (g2 := F0 m 4 ls []) rfl ?_
  refine lv_aload_n hx hb (show decode (mC 54) 4 = .ok (.aload_n 0, 1) by decide +kernel) rfl (lv_at hl 0 rfl) ?_
  refine lv_iconst (v := 0) hx hb (show decode (mC 54) 5 = .ok (.iconst 0, 1) by decide +kernel) (by decide) ?_
  refine va_put (D := D) (ci := 5) (v := .int 0) (ty := .int) (C := oS 5) (T := TT 5) (N := nF 5) hx hb hts (fun w hw => List.mem_cons_of_mem _ (uw5 w hw)) (tyT 5) (ty_at 5 (by omega)) (nm_at 5 (by omega)) hown hK hP hD hS 0 rfl rfl 1 (by decide) (hts _ (List.mem_cons_of_mem _ (lwG_at (i := 270) (by decide +kernel) rfl))) (fun _ h9 => h9) rfl (by decide +kernel) rfl rfl (Nat.le_of_ble_eq_true rfl) (show decode (mC 54) 6 = .ok (.putfield 9, 3) by decide +kernel) (fun H locs hP hD hS => ?_)
  have hP : va_P D vwCl [(h0, .inr (5, [.null, .int 0, .int 0]))] H := hP
  have hD : va_D A [(h0, .inr (5, [.null, .int 0, .int 0]))] := hD
  refine lv_aload_n hx hb (show decode (mC 54) 9 = .ok (.aload_n 0, 1) by decide +kernel) rfl (lv_at hl 0 rfl) ?_
  refine lv_iconst (v := 0) hx hb (show decode (mC 54) 10 = .ok (.iconst 0, 1) by decide +kernel) (by decide) ?_
  refine va_put (D := D) (ci := 5) (v := .int 0) (ty := .int) (C := oS 5) (T := TT 5) (N := nF 5) hx hb hts (fun w hw => List.mem_cons_of_mem _ (uw5 w hw)) (tyT 5) (ty_at 5 (by omega)) (nm_at 5 (by omega)) hown hK hP hD hS 0 rfl rfl 2 (by decide) (hts _ (List.mem_cons_of_mem _ (lwG_at (i := 272) (by decide +kernel) rfl))) (fun _ h9 => h9) rfl (by decide +kernel) rfl rfl (Nat.le_of_ble_eq_true rfl) (show decode (mC 54) 11 = .ok (.putfield 15, 3) by decide +kernel) (fun H locs hP hD hS => ?_)
  have hP : va_P D vwCl [(h0, .inr (5, [.null, .int 0, .int 0]))] H := hP
  have hD : va_D A [(h0, .inr (5, [.null, .int 0, .int 0]))] := hD
  refine lv_aload_n hx hb (show decode (mC 54) 14 = .ok (.aload_n 0, 1) by decide +kernel) rfl (lv_at hl 0 rfl) ?_
  refine va_new (ci := 6) (fs := [.null, .int 0, .null, .null, .null, .null, .null, .null]) (C := oS 6) (T := TT 6) (N := nF 6) hx hb hts (fun w hw => List.mem_cons_of_mem _ (uw6 w hw)) (tyT 6) (ty_at 6 (by omega)) hown (hts _ (List.mem_cons_of_mem _ (lwG_at (i := 266) (by decide +kernel) rfl))) (hts _ (List.mem_cons_of_mem _ (lwG_at (i := 137) (by decide +kernel) rfl))) (hts _ (List.mem_cons_of_mem _ (lwG_at (i := 64) (by decide +kernel) rfl))) hK hP hD hS hA rfl (fun j hj => by rcases (show j = 0 ∨ j = 1 ∨ j = 2 ∨ j = 3 ∨ j = 4 ∨ j = 5 ∨ j = 6 ∨ j = 7 by have h9 : j < 8 := hj; omega) with rfl | rfl | rfl | rfl | rfl | rfl | rfl | rfl <;> rfl) (Nat.le_of_ble_eq_true rfl) (Nat.le_of_ble_eq_true rfl) (show decode (mC 54) 15 = .ok (.new 18, 3) by decide +kernel) (fun q15 H hP hD hS => ?_)
  have hP : va_P D vwCl [(h0, .inr (5, [.null, .int 0, .int 0])), (q15, .inr (6, [.null, .int 0, .null, .null, .null, .null, .null, .null]))] H := hP
  have hD : va_D A [(h0, .inr (5, [.null, .int 0, .int 0])), (q15, .inr (6, [.null, .int 0, .null, .null, .null, .null, .null, .null]))] := hD
  refine W.widen (k := 1) (n := 8) (by decide) (by decide) ?_
  refine lv_dup hx hb (show decode (mC 54) 18 = .ok (.dup, 1) by decide +kernel) rfl ?_
  refine lv_aload_n hx hb (show decode (mC 54) 19 = .ok (.aload_n 1, 1) by decide +kernel) rfl (lv_at hl 1 rfl) ?_
  have hPc := hP.sub (ws' := [(q15, .inr (6, [.null, .int 0, .null, .null, .null, .null, .null, .null]))]) [1] rfl
  have hDc := hD.sub (ws' := [(q15, .inr (6, [.null, .int 0, .null, .null, .null, .null, .null, .null]))]) [1] (by decide) rfl
  have hFc := va_free (wc := [(q15, .inr (6, [.null, .int 0, .null, .null, .null, .null, .null, .null]))]) hD hS hA [1] rfl
  refine va_callv (va_runI (As := [.ref hc]) (rest := [.ref q15, .ref h0]) ⟨hx, hb, hml, hown, hts1⟩ (c_troops l D Y q15 hc H.size) (cwI 1 hts1 (goodM (lwG_at (i := 140) (by decide +kernel) rfl)) rfl rfl rfl (hts _ (List.mem_cons_of_mem _ (lwG_at (i := 64) (by decide +kernel) rfl))) (hts _ (List.mem_cons_of_mem _ (lwG_at (i := 267) (by decide +kernel) rfl))) (hts _ (List.mem_cons_of_mem _ (lwG_at (i := 139) (by decide +kernel) rfl))) rfl (by decide +kernel) ⟨Nat.le_of_ble_eq_true rfl, Nat.le_of_ble_eq_true rfl⟩) ⟨fun a U g mk q => by obtain ⟨q0, q1, qP, qK, qD⟩ := q; exact ⟨q0, q1, qP, va_K.moved (u := U) (U := U.calling g mk a) (Vm.Alike.refl U.vm) qK, qD⟩, fun U hU hW => ⟨rfl, by rw [hU], by rw [hU]; exact hPc, va_K.moved hW.alike hK, hDc.weaken (fun _ _ _ _ => trivial)⟩⟩ rfl rfl hl.1 rfl (lv_room (Nat.le_of_ble_eq_true rfl)) (show decode (mC 54) 20 = .ok (.invokespecial 20, 3) by decide +kernel) ⟨Nat.le_of_ble_eq_true rfl, Nat.le_of_ble_eq_true rfl⟩) hS (fun q _ h => hFc q h) hFc (fun u t H1 locs ht hvm h5 hB hz1 hk1 hS => ?_)
  obtain ⟨p20_q12, p20_q20, p20_q28, p20_q36, p20_q44, p20_q51⟩ := u
  obtain ⟨hP1, hK1, hD1⟩ := hB
  rw [ht] at hP1
  obtain ⟨hP, hD⟩ := va_join (wr := [(h0, .inr (5, [.null, .int 0, .int 0]))]) (w1 := [(q15, .inr (6, [.ref hc, .int 0, .ref p20_q12, .ref p20_q20, .ref p20_q28, .ref p20_q36, .ref p20_q44, .ref p20_q51])), (p20_q12, .inl (Y 0, 6, .inl z0A)), (p20_q20, .inl (Y 0, 6, .inl z0A)), (p20_q28, .inl (Y 0, 6, .inl z0A)), (p20_q36, .inl (Y 0, 6, .inl z0A)), (p20_q44, .inl (Y 1, 6, .inl z0A)), (p20_q51, .inl (Y 0, 2, .inl z0A))]) hP hD [1] [0] rfl rfl (by decide) (by decide) hk1 hFc hP1 hD1
  clear hPc hDc hFc hP1 hD1 hK1
  generalize H1 = H at hP hS ⊢
  have hP : va_P D vwCl [(h0, .inr (5, [.null, .int 0, .int 0])), (q15, .inr (6, [.ref hc, .int 0, .ref p20_q12, .ref p20_q20, .ref p20_q28, .ref p20_q36, .ref p20_q44, .ref p20_q51])), (p20_q12, .inl (Y 0, 6, .inl z0A)), (p20_q20, .inl (Y 0, 6, .inl z0A)), (p20_q28, .inl (Y 0, 6, .inl z0A)), (p20_q36, .inl (Y 0, 6, .inl z0A)), (p20_q44, .inl (Y 1, 6, .inl z0A)), (p20_q51, .inl (Y 0, 2, .inl z0A))] H := hP
  have hD : va_D A [(h0, .inr (5, [.null, .int 0, .int 0])), (q15, .inr (6, [.ref hc, .int 0, .ref p20_q12, .ref p20_q20, .ref p20_q28, .ref p20_q36, .ref p20_q44, .ref p20_q51])), (p20_q12, .inl (Y 0, 6, .inl z0A)), (p20_q20, .inl (Y 0, 6, .inl z0A)), (p20_q28, .inl (Y 0, 6, .inl z0A)), (p20_q36, .inl (Y 0, 6, .inl z0A)), (p20_q44, .inl (Y 1, 6, .inl z0A)), (p20_q51, .inl (Y 0, 2, .inl z0A))] := hD
  refine W.widen (k := 7) (n := 40) (by decide) (by decide) ?_
  refine va_putF (D := D) (ci := 5) (v := .ref q15) (ty := (.object "TinSoldiers$Troops")) (C := oS 5) (T := TT 5) (N := nF 5) hx hb hts (fun w hw => List.mem_cons_of_mem _ (uw5 w hw)) (tyT 5) (ty_at 5 (by omega)) (nm_at 5 (by omega)) hown hK hP hD hS 0 rfl rfl 0 (by decide) (hts _ (List.mem_cons_of_mem _ (lwG_at (i := 268) (by decide +kernel) rfl))) (fun _ h9 => h9) rfl hin rfl (by decide +kernel) rfl rfl (Nat.le_of_ble_eq_true rfl) (show decode (mC 54) 23 = .ok (.putfield 23, 3) by decide +kernel) (fun H locs hP hD hS => ?_)
  have hP : va_P D vwCl [(h0, .inr (5, [.ref q15, .int 0, .int 0])), (q15, .inr (6, [.ref hc, .int 0, .ref p20_q12, .ref p20_q20, .ref p20_q28, .ref p20_q36, .ref p20_q44, .ref p20_q51])), (p20_q12, .inl (Y 0, 6, .inl z0A)), (p20_q20, .inl (Y 0, 6, .inl z0A)), (p20_q28, .inl (Y 0, 6, .inl z0A)), (p20_q36, .inl (Y 0, 6, .inl z0A)), (p20_q44, .inl (Y 1, 6, .inl z0A)), (p20_q51, .inl (Y 0, 2, .inl z0A))] H := hP
  have hD : va_D A [(h0, .inr (5, [.ref q15, .int 0, .int 0])), (q15, .inr (6, [.ref hc, .int 0, .ref p20_q12, .ref p20_q20, .ref p20_q28, .ref p20_q36, .ref p20_q44, .ref p20_q51])), (p20_q12, .inl (Y 0, 6, .inl z0A)), (p20_q20, .inl (Y 0, 6, .inl z0A)), (p20_q28, .inl (Y 0, 6, .inl z0A)), (p20_q36, .inl (Y 0, 6, .inl z0A)), (p20_q44, .inl (Y 1, 6, .inl z0A)), (p20_q51, .inl (Y 0, 2, .inl z0A))] := hD
  exact W.vret hx hb hr (fun t ht hW => ⟨⟨(q15, p20_q12, p20_q20, p20_q28, p20_q36, p20_q44, p20_q51), rfl, trivial, by rw [ht]; exact hP, va_K.moved hW.alike hK, hD⟩, hS.F ht⟩) hS.2.2 (show decode (mC 54) 26 = .ok (.return_, 1) by decide +kernel)
