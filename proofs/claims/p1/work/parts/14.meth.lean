/-! A METHOD'S CONTRACT, by the bound on its depth -/
theorem zthr_E {E : Nat} {cls : String} (h : zexn[E]? = some cls) : zthrchk (zic E, cls) = true := by
  match E, h with
  | 0, h => obtain rfl := Option.some.inj h; exact zthr_0
  | 1, h => obtain rfl := Option.some.inj h; exact zthr_1
  | 2, h => obtain rfl := Option.some.inj h; exact zthr_2
theorem zthr_ok {args : Array Value} {s : State} {ic : Nat} {cls : String} (hts : ∀ w ∈ ztbl, w.before args s = true) (hF : ∀ w ∈ zFw, va_Nw w s) (h : zthrchk (ic, cls) = true) : Bundle.fit cls = true ∧ (∀ w ∈ vx_atS "Macrocosm" ic cls zchn, w.before args s = true ∧ vx_ot w = true) ∧ (Jvm.Cond.initialized cls).before args s = true ∧ vx_ot (Jvm.Cond.initialized cls) = true := by
  unfold zthrchk at h
  simp only [Bool.and_eq_true, decide_eq_true_eq] at h
  obtain ⟨h1, h2, h3, h4⟩ := h
  refine ⟨h1, fun w hw => ?_, hts _ (List.mem_filter.mpr ⟨h3, h4⟩), ?_⟩
  · have h5 := List.all_eq_true.mp h2 w hw
    rw [Bool.and_eq_true] at h5
    refine ⟨?_, h5.1⟩
    have h6 := h5.2
    split at h6
    · rename_i hg
      exact hts _ (List.mem_filter.mpr ⟨of_decide_eq_true h6, hg⟩)
    · rename_i hg
      have h7 := h5.1
      unfold vx_ot at h7
      rw [Bool.or_eq_true] at h7
      exact va_Nw.use (h7.resolve_right hg) (hF w (of_decide_eq_true h6))
  · unfold vx_ot
    rw [h4, Bool.or_true]
set_option maxHeartbeats 4000000 in
theorem zmeth {l : Launch} {cf : zF} {d : Nat} (hfl : l.stackTraces = false) (hc : zOK l cf d (zrun cf d)) : zOK l cf (d + 1) (zrun cf (d + 1)) := by
  intro mi av w o M hM hrun D tc rh ad sz hcf hwf hnd
  unfold zrun at hrun
  rw [hM] at hrun
  dsimp only at hrun
  split at hrun
  · cases hrun
  · rename_i hble
    split at hrun
    · cases hrun
    · rename_i q hq
      have hble := Nat.le_of_ble_eq_true hble
      obtain ⟨m1, m2, m3, m4, m5, m6, m7, m8, m9, m10, m11, m12⟩ := zm_to (zp_all M (List.mem_of_getElem? hM))
      have hxc := List.all_eq_true.mp zx_all M (List.mem_of_getElem? hM)
      unfold zxchk at hxc
      rw [Bool.and_eq_true, decide_eq_true_eq, Bool.or_eq_true, decide_eq_true_eq, decide_eq_true_eq] at hxc
      obtain ⟨e9, he9, hcase⟩ := zout_to hrun
      have hdq : q.2.2.2.2.1 ≤ o.2.2.2.1 ∧ q.2.2.2.2.2 ≤ o.2.2.2.2 := by
        rcases hcase with ⟨_, _, -, -, -, -, rfl⟩ | ⟨_, -, -, -, rfl⟩ | ⟨_, _, -, -, -, -, rfl⟩ | ⟨-, -, -, rfl⟩ | ⟨_, _, _, _, _, _, -, -, -, rfl⟩
        · exact ⟨Nat.le_refl _, Nat.le_refl _⟩
        · exact ⟨Nat.le_refl _, Nat.le_refl _⟩
        · exact ⟨Nat.le_refl _, Nat.le_refl _⟩
        · exact ⟨Nat.le_refl _, Nat.le_refl _⟩
        · exact ⟨Nat.le_add_right _ _, Nat.le_add_right _ _⟩
      have body : ∀ (p : Program) (e : Env) (s : State) (m : MethodId) (args : Array Value) (below : List Frame) (meth : Method) (c : Code) (s₁ : State), BodyLoose p l M.1 (headSpec (zws M) (zrm (d + 1) o)) M.2.1 M.2.2.1 M.2.2.2.1 e s m args below meth c s₁ → c.maxLocals = M.2.2.1 → c.exceptionTable.toList = tableOf M.2.2.2.2.1 → zPc D tc rh ad sz av w args s →
          W p l e (zrm (d + 1) o) s m args below meth c s.heap [] 0 0 (vx_MQ below (zQc D tc rh ad sz w o) (zXC D tc rh ad sz w o) args s o.2.2.2.1 o.2.2.2.2 (va_A (zw tc ad rh w) sz)) (entryFrame m args M.2.2.1) := by
        intro p e s m args below meth c s₁ B hml hT hv
        obtain ⟨rfl, hsz, hP, hK, hD, hZ⟩ := hv
        subst hsz
        have hts := atoms_spec (ws := zws M) B.pre
        have htb : ∀ w ∈ ztbl, w.before (zst ad zz rh av).toArray s = true := fun w hw => hts w (List.mem_cons_of_mem _ hw)
        have hown : s.vm.findClass M.1.cls = some m.cls := findClass_of_methodNamed B.named
        have hx := B.exec
        have hb := B.bytes
        have hr := B.returns
        have hlocks : meth.locks = false := B.notSynchronized
        obtain ⟨hw1, -, hw3⟩ := zwf_to hwf
        have hl := lv_entry (zst ad zz rh av) (n := M.2.2.1) (by rw [zsl_len]; exact hble)
        rw [zargs_eq] at hl
        rw [lg_entry_eq]
        generalize (lg_sl (zst ad zz rh av) ++ List.replicate (M.2.2.1 - (lg_sl (zst ad zz rh av)).length) Slot.unset).toArray = lsC at hl ⊢
        have C0 : zC0 p s m (zst ad zz rh av).toArray meth c M.2.1 M.1.cls M.1.name M.2.2.1 D tc (va_A (zw tc ad rh w) s.heap.size) := ⟨hx, hb, hown, hK, htb, hZ, fun q h => Or.inr h, fun h => (name_of_methodNamed B.named B.method).1.trans h, hml⟩
        have g := zloop_ok (Q := vx_MQ below (zQc D tc rh ad s.heap.size w o) (zXC D tc rh ad s.heap.size w o) (zst ad zz rh av).toArray s o.2.2.2.1 o.2.2.2.2 (va_A (zw tc ad rh w) s.heap.size)) (l := l) (en := e) (R := zrm (d + 1) o) (below := below) (sp0 := 0) (isL := false) (d := d) C0 hcf (fun h => by cases h) hc (fun _ => hT) m11 m12 (by show 9 + d ≤ 8 + (d + 1); omega) (by show 300 + 100 * d ≤ 200 + 100 * (d + 1); omega) m10 3000 0 (zargs 0 av) [] w 0 0 q ad zz s.heap [] lsC hq hdq.1 hdq.2 hP hD va_S.rf hl (zwf_of hw1 (zargs_wf hw3 0) rfl) rfl ?_
        · rw [hxc.1] at g
          exact g
        · intro ad' sp' H' locs' lsC' hext hsp hP' hD' hS' hl' hw' hn'
          obtain ⟨i, pc, len, ex⟩ := e9
          have hpc : zpc M.2.2.2.2.2.2.2.2.2 q.1 = pc := by simp [zpc, he9]
          rw [hpc]
          obtain ⟨f1, f2, f3⟩ := zwf_to hw'
          rcases hcase with ⟨x, ty, h1, h2, h3, h4, rfl⟩ | ⟨x, h1, h2, h3, rfl⟩ | ⟨v, n, h1, h2, h3, h4, rfl⟩ | ⟨h1, h2, h3, rfl⟩ | ⟨idx, E, j, si, ic, r, h1, h2, h3, rfl⟩
          · replace h1 : i = .ireturn := h1
            subst h1
            have hck := zcd_to m10 he9 (fun h => by cases h)
            unfold zchk at hck
            rw [Bool.and_eq_true, decide_eq_true_eq] at hck
            obtain ⟨hdec, hck⟩ := hck
            obtain rfl : len = 1 := of_decide_eq_true hck
            rw [h2]
            exact vx_ret (W.zret hx hb (hr.trans h3) h4 (fun t ht hW => ⟨rfl, ad', ⟨hext, by rw [ht]; exact hP', hD', zwf_of f1 rfl rfl, hS'.F ht⟩, fun sp => rfl⟩) (fun z hz => hS'.2.2 z hz) hdec hlocks)
          · replace h1 : i = .lreturn := h1
            subst h1
            have hck := zcd_to m10 he9 (fun h => by cases h)
            unfold zchk at hck
            rw [Bool.and_eq_true, decide_eq_true_eq] at hck
            obtain ⟨hdec, hck⟩ := hck
            obtain rfl : len = 1 := of_decide_eq_true hck
            rw [h2]
            exact vx_ret (W.lret hx hb (hr.trans h3) (fun t ht hW => ⟨rfl, ad', ⟨hext, by rw [ht]; exact hP', hD', zwf_of f1 rfl rfl, hS'.F ht⟩, fun sp => rfl⟩) (fun z hz => hS'.2.2 z hz) hdec hlocks)
          · replace h1 : i = .areturn := h1
            subst h1
            have hck := zcd_to m10 he9 (fun h => by cases h)
            unfold zchk at hck
            rw [Bool.and_eq_true, decide_eq_true_eq] at hck
            obtain ⟨hdec, hck⟩ := hck
            obtain rfl : len = 1 := of_decide_eq_true hck
            rw [h2] at f3 ⊢
            exact vx_ret (W.aret hx hb (hr.trans h3) (Or.inl ⟨n, rfl⟩) (by
              rcases h4 with rfl | ⟨a, rfl⟩
              · exact Or.inl rfl
              · exact Or.inr ⟨_, rfl⟩) (fun t ht hW => ⟨rfl, ad', ⟨hext, by rw [ht]; exact hP', hD', zwf_of f1 rfl f3, hS'.F ht⟩, fun sp => by
              rcases h4 with rfl | ⟨a, rfl⟩
              · rfl
              · rfl⟩) (fun z hz => hS'.2.2 z hz) hdec hlocks)
          · replace h1 : i = .return_ := h1
            subst h1
            have hck := zcd_to m10 he9 (fun h => by cases h)
            unfold zchk at hck
            rw [Bool.and_eq_true, decide_eq_true_eq] at hck
            obtain ⟨hdec, hck⟩ := hck
            obtain rfl : len = 1 := of_decide_eq_true hck
            rw [h2]
            exact vx_ret (W.vret hx hb (hr.trans h3) (fun t ht hW => ⟨rfl, ad', ⟨hext, by rw [ht]; exact hP', hD', zwf_of f1 rfl rfl, hS'.F ht⟩, fun sp => rfl⟩) (fun z hz => hS'.2.2 z hz) hdec hlocks)
          · replace h1 : i = .new idx := h1
            subst h1
            replace h2 : ex = E :: j :: si :: ic :: r := h2
            subst h2
            have hck := zcd_to m10 he9 (fun h => by cases h)
            unfold zchk at hck
            rw [Bool.and_eq_true, decide_eq_true_eq] at hck
            obtain ⟨hdec, hck⟩ := hck
            match r, hck with
            | [], hck =>
              replace hck : (zln _ && false) = true := hck
              rw [Bool.and_false] at hck
              cases hck
            | _ :: _ :: _, hck =>
              replace hck : (zln _ && false) = true := hck
              rw [Bool.and_false] at hck
              cases hck
            | [sx], hck =>
              replace hck : (zln (Instr.new idx, pc, len, [E, j, si, ic, sx]) && (decide (M.1.cls = "Macrocosm") && (decide (ic = zic E) && (decide (E < 3) && (match zexn[E]?, zStr[sx]? with
                | some cls, some q => zwd j (.classLink M.1.cls idx cls) && (decide (q.1 = M.1.cls) && decide (q.2.1 = si))
                | _, _ => false) && (decide (decode M.2.1 (pc + 3) = .ok (.dup, 1)) && (decide (decode M.2.1 (pc + 4) = .ok (.ldc si, 2)) && (decide (decode M.2.1 (pc + 6) = .ok (.invokespecial ic, 3)) && decide (decode M.2.1 (pc + 9) = .ok (.athrow, 1))))))))) = true := hck
              simp only [Bool.and_eq_true, decide_eq_true_eq] at hck
              obtain ⟨c1, c2, c3, ⟨c4, c5⟩, c6, c7, c8, c9⟩ := hck
              obtain rfl : len = 3 := of_decide_eq_true c1
              split at c5
              · rename_i cls q9 hcls hq9
                simp only [Bool.and_eq_true, decide_eq_true_eq] at c5
                obtain ⟨d1, d2, d3⟩ := c5
                subst c3
                rw [c2] at hown d1 d2
                obtain ⟨t1, t2, t3, t4⟩ := zthr_ok htb hZ.1 (zthr_E hcls)
                obtain ⟨sa, hsa⟩ := hZ.2.2.1 q9 (List.mem_of_getElem? hq9)
                rw [d2, d3] at hsa
                have hnil : M.2.2.2.2.1 = [] := hxc.2.resolve_right (fun h => by rw [c2] at h; exact absurd h (by decide))
                refine vx_throwS hx hb hfl (own := "Macrocosm") (names := zchn) (A := va_A (zw tc ad rh w) s.heap.size) hown t1 zchn_fit (htb _ (zwd_to d1)) t3 hsa (fun w hw => (t2 w hw).1) ?_ hZ.2.2.2.2.1 hZ.2.2.2.2.2.1 hS' (hl'.1.trans hml.symm) hdec c6 c7 c8 c9 ?_ ?_ ?_ (Nat.le_refl _) (Nat.le_refl _) hlocks ?_ (fun z hz => hS'.2.2 z hz) (Nat.le_refl _) (Nat.le_refl _)
                · intro w hw
                  rcases List.mem_cons.mp hw with rfl | hw
                  · unfold vx_ot
                    rw [ztbl_good (zwd_to d1), Bool.or_true]
                  · rcases List.mem_cons.mp hw with rfl | hw
                    · exact t4
                    · exact (t2 w hw).2
                · intro x9 hx9
                  rw [hT, hnil] at hx9
                  cases hx9
                · show 2 + 3 < 8 + (d + 1)
                  omega
                · rw [zsum_eq]
                  show zsum q.2.2.1 + (13 * (2 + 1) + 43) ≤ 200 + 100 * (d + 1)
                  omega
                · intro t hvm hsz hq8
                  refine ⟨E, ad', rfl, hcls, hext, fun k q7 h7 => (hP' k q7 h7).kept (hq8 _ (hP' k q7 h7).lt), hD', zwf_of f1 rfl rfl, Nat.le_trans hS'.1 hsz, fun q7 h7 h8 => ?_⟩
                  rw [hq8 q7 (Nat.lt_of_lt_of_le h7 hS'.1)]
                  exact hS'.2.1 q7 h7 h8
              · cases c5
      cases hh9 : M.2.2.2.2.1 with
      | nil =>
        exact vx_ofW (cc := M.2.1) (maxL := M.2.2.1) (ret := M.2.2.2.1) (ws' := ztbl) m7 (by unfold zws; rw [hh9]) (fun p e s m args below meth c s₁ B hml ht hv => body p e s m args below meth c s₁ B hml (by rw [hh9]; exact List.eq_nil_iff_forall_not_mem.mpr ht) hv)
      | cons z zs =>
        have hcw := zws_codeW hh9
        exact vx_ofWH (cc := M.2.1) (maxL := M.2.2.1) (ret := M.2.2.2.1) (ws' := ztbl) (hh := z :: zs) m7 (by unfold zws; rw [hh9]) (fun p e s m args below meth c s₁ B hml hv => body p e s m args below meth c s₁ B hml (by rw [hh9]; exact vx_table (x := M.1) B (atoms_spec (ws := zws M) B.pre _ hcw)) hv)
theorem zOK_all {l : Launch} {cf : zF} (hfl : l.stackTraces = false) : ∀ d, zOK l cf d (zrun cf d) := by
  intro d
  induction d with
  | zero =>
    intro mi av w o M hM hrun
    unfold zrun at hrun
    cases hrun
  | succ d ih => exact zmeth hfl ih
