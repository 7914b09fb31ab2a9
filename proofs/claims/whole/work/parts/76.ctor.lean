section
variable {p : Program} {l : Launch} {e : Env} {R : Room} {s : State} {m : MethodId} {args : Array Value} {below : List Frame} {meth : Method} {c : Code} {H : Heap} {locs : List Loc} {cells slots : Nat} {Q : State → Prop}
variable {cc : ByteArray} {pc : Nat} {ls : Array Slot} {rest : List Value} {D : va_G} {cl : List vw_C} {A : Nat → Prop} {a : Nat} {tys : List (ClassId × FieldType)} {ws : va_W} {H0 : Heap}
theorem ra_uniq {U : State} {x y : ClassId} {ty : FieldType} (h : va_RA U x ty) (g : va_RA U y ty) : x = y := by
  cases ty with
  | object C =>
    obtain ⟨_, _, _, _, _, h4⟩ := h
    obtain ⟨_, _, _, _, _, g4⟩ := g
    exact Option.some.inj (h4.symm.trans g4)
  | _ => exact Option.some.inj (Eq.trans (Eq.symm h) g)
theorem nwa (hexec : p.tables.exec = Jvm.exec) (hb : c.code = cc) {atype : ArrayType} (harr : (Cond.arrayClass (newarray.typeOf atype)).before args s = true) {ty : FieldType} (hty : newarray.typeOf atype = ty) (hK : va_K D cl tys s) (hP : va_P D cl ws H) (hD : va_D A ws) (hS : va_S A H0 H locs) (hA : ∀ q, H0.size ≤ q → A q) (t0 : Nat) {Y : ClassId} (ht : tys[t0]? = some (Y, ty))
    {n : Int32} {N' : Nat} {a0 : vp_A} (ha : ∀ cA : ClassId, vp_cell cA a0 = arrV cA N' (fun _ => defaultValue ty)) (hn : ¬ n < 0) (hN : n.toNatClampNeg = N') (hbytes : N' * componentBytes ty ≤ 536870912) (hcells : cells + 1 ≤ R.cells) (hslots : slots + N' ≤ R.slots) (hdg : decode cc pc = .ok (.newarray atype, 2))
    (kk : ∀ (q : Nat) (H1 : Heap), va_P D cl (ws ++ [(q, .inl (Y, a0))]) H1 → va_D A (ws ++ [(q, .inl (Y, a0))]) → va_S A H0 H1 locs →
      W p l e R s m args below meth c H1 locs (cells + 1) (slots + N') Q (F0 m (pc + 2) ls (.ref q :: rest))) : W p l e R s m args below meth c H locs cells slots Q (F0 m pc ls (.int n :: rest)) := by
  refine va_newa hexec hb harr hty hK hP hD hS hA ha hn hN hbytes hcells hslots hdg (fun q cA H1 hK1 hP1 hD1 hS1 => ?_)
  have e : cA = Y := ra_uniq (hK1.2 tys.length (cA, ty) (by simp)).2 (hK.2 t0 _ ht).2
  subst e
  exact kk q H1 hP1 hD1 hS1
end
def yT (Y : Nat → ClassId) : List (ClassId × FieldType) := [(Y 0, .int), (Y 1, .boolean), (Y 2, .char), (Y 3, .byte), (Y 4, .object "TinSoldiers$Troops")]
def z0A : Nat → Int32 := fun _ => 0
def at_page (D : va_G) (Y : Nat → ClassId) (h0 : Nat) (A : Nat → Prop) : Nat → State → Prop := fun q7 t => va_P D vwCl [(h0, .inr (3, [.ref q7, .int 0])), (q7, .inl (Y 2, 22, .inl z0A))] t.heap ∧ va_K D vwCl (yT Y) t ∧ va_D A [(h0, .inr (3, [.ref q7, .int 0])), (q7, .inl (Y 2, 22, .inl z0A))]
set_option maxRecDepth 100000 in
theorem c_page (l : Launch) (D : va_G) (Y : Nat → ClassId) (h0 sz : Nat) : Met l (mY 39) (mW 39) ({ frames := 1, cells := 1, slots := 22, locals := 20 }) (va_Pc [.ref h0] (fun U => U.heap.size = sz ∧ va_P D vwCl [(h0, .inr (3, [.null, .int 0]))] U.heap ∧ va_K D vwCl (yT Y) U ∧ va_D (fun _ => True) [(h0, .inr (3, [.null, .int 0]))])) (va_Qv (fun _ : Nat => True) (at_page D Y h0 (va_A [(h0, .inr (3, [.null, .int 0]))] sz)) (va_A [(h0, .inr (3, [.null, .int 0]))] sz)) 1 22 (va_A [(h0, .inr (3, [.null, .int 0]))] sz) := by
  refine Met.ofW (cc := mC 39) (maxL := 1) (ret := none) (by decide) rfl ?_
  intro p e s m args below meth c s₁ B hml hv
  obtain ⟨rfl, hsz, hP, hK, hD0⟩ := hv
  have hx := B.exec
  have hb := B.bytes
  have hr := B.returns
  have hts := atoms_spec (ws := mW 39) B.pre
  have hown : s.vm.findClass "TinSoldiers$Page" = some m.cls := findClass_of_methodNamed B.named
  have hlocks := B.notSynchronized
  have hin : meth.name = "<init>" := (name_of_methodNamed B.named B.method).1
  subst hsz
  have hD := hD0.self (sz := s.heap.size)
  generalize hAe : va_A [(h0, .inr (3, [.null, .int 0]))] s.heap.size = A at hD ⊢
  have hA : ∀ q : Nat, s.heap.size ≤ q → A q := fun q h => by rw [← hAe]; exact Or.inr h
  have hS : va_S A s.heap s.heap [] := va_S.rf
  have hl := lv_entry ([.ref h0]) (n := 1) (Nat.le_of_ble_eq_true rfl)
  rw [lg_entry_eq]
  generalize (lg_sl ([.ref h0]) ++ List.replicate (1 - (lg_sl ([.ref h0])).length) Slot.unset).toArray = ls at hl ⊢
  have hl : lv_has ls 1 [(0, .ref h0)] := hl
  refine lv_aload_n hx hb (show decode (mC 39) 0 = .ok (.aload_n 0, 1) by decide +kernel) rfl (lv_at hl 0 rfl) ?_
  refine W.objInit hx hb hown (hts _ (List.mem_cons_of_mem _ (lwG_at (i := 92) (by decide +kernel) rfl))) (hts _ (List.mem_cons_of_mem _ (lwG_at (i := 85) (by decide +kernel) rfl))) (hts _ (List.mem_cons_of_mem _ (lwG_at (i := 86) (by decide +kernel) rfl))) rfl (by rw [hml]; exact hl.1) rfl (show decode (mC 39) 1 = .ok (.invokespecial 3, 3) by decide +kernel) (Nat.le_of_ble_eq_true rfl) (Nat.le_of_ble_eq_true rfl) ?_
  refine W.eq (g2 := F0 m 4 ls []) rfl ?_
  refine lv_aload_n hx hb (show decode (mC 39) 4 = .ok (.aload_n 0, 1) by decide +kernel) rfl (lv_at hl 0 rfl) ?_
  refine lv_bipush (v := 22) hx hb (show decode (mC 39) 5 = .ok (.bipush 22, 2) by decide +kernel) (by decide) ?_
  refine nwa (Y := Y 2) (a0 := (22, .inl z0A)) (ty := .char) hx hb (hts _ (List.mem_cons_of_mem _ (lwG_at (i := 105) (by decide +kernel) rfl))) rfl hK hP hD hS hA 2 rfl (fun _ => rfl) (by decide) (by decide) (by decide) (Nat.le_of_ble_eq_true rfl) (Nat.le_of_ble_eq_true rfl) (show decode (mC 39) 7 = .ok (.newarray .char, 2) by decide +kernel) (fun q7 H hP hD hS => ?_)
  have hP : va_P D vwCl [(h0, .inr (3, [.null, .int 0])), (q7, .inl (Y 2, 22, .inl z0A))] H := hP
  have hD : va_D A [(h0, .inr (3, [.null, .int 0])), (q7, .inl (Y 2, 22, .inl z0A))] := hD
  refine W.widen (k := 1) (n := 22) (by omega) (by omega) ?_
  refine va_putF (D := D) (ci := 3) (v := .ref q7) (ty := (.array .char)) (C := oS 3) (T := TT 3) (N := nF 3) hx hb hts (fun w hw => List.mem_cons_of_mem _ (uw3 w hw)) (tyT 3) (ty_at 3 (by omega)) (nm_at 3 (by omega)) hown hK hP hD hS 0 rfl rfl 0 (by decide) (hts _ (List.mem_cons_of_mem _ (lwG_at (i := 93) (by decide +kernel) rfl))) (fun _ h9 => h9) rfl hin rfl (by decide +kernel) rfl rfl (Nat.le_of_ble_eq_true rfl) (show decode (mC 39) 9 = .ok (.putfield 9, 3) by decide +kernel) (fun H locs hP hD hS => ?_)
  have hP : va_P D vwCl [(h0, .inr (3, [.ref q7, .int 0])), (q7, .inl (Y 2, 22, .inl z0A))] H := hP
  have hD : va_D A [(h0, .inr (3, [.ref q7, .int 0])), (q7, .inl (Y 2, 22, .inl z0A))] := hD
  refine lv_aload_n hx hb (show decode (mC 39) 12 = .ok (.aload_n 0, 1) by decide +kernel) rfl (lv_at hl 0 rfl) ?_
  refine lv_iconst (v := 0) hx hb (show decode (mC 39) 13 = .ok (.iconst 0, 1) by decide +kernel) (by decide) ?_
  refine va_put (D := D) (ci := 3) (v := .int 0) (ty := .int) (C := oS 3) (T := TT 3) (N := nF 3) hx hb hts (fun w hw => List.mem_cons_of_mem _ (uw3 w hw)) (tyT 3) (ty_at 3 (by omega)) (nm_at 3 (by omega)) hown hK hP hD hS 0 rfl rfl 1 (by decide) (hts _ (List.mem_cons_of_mem _ (lwG_at (i := 97) (by decide +kernel) rfl))) (fun _ h9 => h9) rfl (by decide +kernel) rfl rfl (Nat.le_of_ble_eq_true rfl) (show decode (mC 39) 14 = .ok (.putfield 15, 3) by decide +kernel) (fun H locs hP hD hS => ?_)
  have hP : va_P D vwCl [(h0, .inr (3, [.ref q7, .int 0])), (q7, .inl (Y 2, 22, .inl z0A))] H := hP
  have hD : va_D A [(h0, .inr (3, [.ref q7, .int 0])), (q7, .inl (Y 2, 22, .inl z0A))] := hD
  exact W.vret hx hb hr (fun t ht hW => ⟨⟨q7, rfl, trivial, by rw [ht]; exact hP, va_K.moved hW.alike hK, hD⟩, hS.F ht⟩) hS.2.2 (show decode (mC 39) 17 = .ok (.return_, 1) by decide +kernel)
