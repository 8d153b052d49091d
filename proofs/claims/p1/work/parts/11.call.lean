/-! A METHOD BY CONTRACT, out of its run in lists; a call of it -/
def zPc (D : va_G) (tc : Nat → ClassId) (rh : Nat → Int32) (ad : Nat → Nat) (sz : Nat) (av : List Value) (w : List zE) : Array Value → State → Prop := va_Pc (zst ad zz rh av) (fun U => U.heap.size = sz ∧ va_P D zcl (zw tc ad rh w) U.heap ∧ va_K D zcl (ztys tc) U ∧ va_D (va_A (zw tc ad rh w) sz) (zw tc ad rh w) ∧ zZ (va_A (zw tc ad rh w) sz) U U.heap)
def zB (D : va_G) (tc : Nat → ClassId) (rh : Nat → Int32) (ad : Nat → Nat) (sz : Nat) (w : List zE) (o : zO) (ad' : Nat → Nat) (st t : State) : Prop := (∀ k, k < w.length → ad' k = ad k) ∧ va_P D zcl (zw tc ad' rh o.2.2.1) t.heap ∧ va_D (va_A (zw tc ad rh w) sz) (zw tc ad' rh o.2.2.1) ∧ zwf [] o.2.1.toList o.2.2.1 = true ∧ va_F (va_A (zw tc ad rh w) sz) st t
def zQc (D : va_G) (tc : Nat → ClassId) (rh : Nat → Int32) (ad : Nat → Nat) (sz : Nat) (w : List zE) (o : zO) : Array Value → State → Outcome → State → Prop := fun _ st oc t => o.1 = 0 ∧ ∃ ad', zB D tc rh ad sz w o ad' st t ∧ ∀ sp, oc = .returned (o.2.1.map (zv ad' sp rh))
def zXC (D : va_G) (tc : Nat → ClassId) (rh : Nat → Int32) (ad : Nat → Nat) (sz : Nat) (w : List zE) (o : zO) : String → State → State → Prop := fun E st t => ∃ k ad', o.1 = k + 1 ∧ zexn[k]? = some E ∧ zB D tc rh ad sz w o ad' st t
def zrm (d : Nat) (o : zO) : Room := { frames := 8 + d, cells := o.2.2.2.1, slots := o.2.2.2.2, locals := 200 + 100 * d }
def zOK (l : Launch) (cf : zF) (d : Nat) (call : Nat → List Value → List zE → Option zO) : Prop := ∀ (mi : Nat) (av : List Value) (w : List zE) (o : zO) (M : zM), zp[mi]? = some M → call mi av w = some o → ∀ (D : va_G) (tc : Nat → ClassId) (rh : Nat → Int32) (ad : Nat → Nat) (sz : Nat), zcfok cf rh → zwf [] av w = true → av.any zdbl = false →
  vx_Met l M.1 (zws M) (zrm d o) (zPc D tc rh ad sz av w) (zQc D tc rh ad sz w o) (zXC D tc rh ad sz w o) o.2.2.2.1 o.2.2.2.2 (va_A (zw tc ad rh w) sz)
theorem zPc_blind {D : va_G} {tc : Nat → ClassId} {rh : Nat → Int32} {ad : Nat → Nat} {sz : Nat} {av : List Value} {w : List zE} : FrameBlind (zPc D tc rh ad sz av w) := by
  intro a U g mk h
  obtain ⟨h0, h1, h2, h3, h4, h5⟩ := h
  have hW : U.WarmedH (U.calling g mk a).vm := State.WarmedH.refl U
  exact ⟨h0, h1, h2, va_K.moved hW.alike h3, h4, zZ_warm hW h5⟩
theorem zMet_of {l : Launch} {y : MethodName} {ws : List Cond} {rm : Room} {Pc : Array Value → State → Prop} {Qc : Array Value → State → Outcome → State → Prop} {XC : String → State → State → Prop} {mc ms : Nat} {free : Addr → Prop} (h : vx_Met l y ws rm Pc Qc XC mc ms free) (hx : ∀ E st t, ¬ XC E st t) : Met l y ws rm Pc Qc mc ms free := by
  unfold Met
  unfold vx_Met at h
  refine MetFree.mono h (fun _ _ h => h) (fun _ _ _ _ _ h => h) (fun a st o t _ hq => ?_)
  rcases hq with hq | ⟨q, -, E, ce, L, h1, -⟩
  · exact hq
  · exact absurd h1 (hx _ _ _)
theorem ztbl_good {w : Jvm.Cond} (h : w ∈ ztbl) : goodWord w = true := (List.mem_filter.mp h).2
theorem zgood {ws : List Jvm.Cond} (h : ∀ w ∈ ws, w ∈ ztbl) : GoodIn ztbl ws := fun w hw => ⟨h w hw, good_of_word (ztbl_good (h w hw))⟩
theorem zst_nd {ad sp : Nat → Nat} {rh : Nat → Int32} {av : List Value} (h : av.any zdbl = false) : zst ad sp rh av = zst ad zz rh av := by
  refine List.map_congr_left fun v hv => zv_nd ?_
  cases hd : zdbl v with
  | false => rfl
  | true => rw [List.any_eq_true.mpr ⟨v, hv, hd⟩] at h; cases h
theorem zm_to {M : zM} (h : zmchk M = true) : (∀ w ∈ zws M, w ∈ ztbl) ∧ Jvm.Cond.initialized M.1.cls ∈ ztbl ∧ (match M.2.2.2.2.2.1 with
    | 1 => Jvm.Cond.static M.1
    | _ => Jvm.Cond.instanceMethod M.1) ∈ ztbl ∧ M.1.cls ≠ "java/lang/invoke/MethodHandle" ∧ M.1.cls ≠ "java/lang/invoke/VarHandle" ∧ (parseMethodDescriptor M.1.desc).map (fun d => d.parameters.length) = some M.2.2.2.2.2.2.1 ∧ plainName M.1.cls = true ∧ M.2.2.1 ≤ 60 ∧ M.2.2.2.2.2.1 < 3 ∧ zcdchk M.1.cls M.1.name M.2.1 M.2.2.2.2.2.2.2.2.2 = true ∧ zhchk M.2.2.2.2.1 M.1.cls M.2.2.2.2.2.2.2.2.2 = true ∧ zikchk M.1.cls M.2.2.2.2.2.2.2.2.2 = true := by
  unfold zmchk at h
  split at h
  · simp only [Bool.and_eq_true, decide_eq_true_eq] at h
    obtain ⟨a1, a2, a3, a4, a5, a6, a7, a8, a9, a10, a11, a12⟩ := h
    refine ⟨fun w hw => ?_, zwd_to a2, zwd_to a3, a4, a5, a6, a7, a8, a9, a10, a11, a12⟩
    rcases List.mem_cons.mp hw with rfl | hw
    · exact zwd_to a1
    · exact hw
  · cases h
theorem zhps_to {hh : List (Nat × Nat × Nat × Nat)} {code : List zI} {pc E t : Nat} : ∀ hs : List Nat, zhps hh code pc hs = true → zhnd E hs = some t → ∃ i, i < hh.length ∧ zhrow hh pc E (zpc code t) i = true
  | [], _, h => nomatch h
  | [_], _, h => nomatch h
  | a :: b :: r, h1, h2 => by
    unfold zhps at h1
    rw [Bool.and_eq_true] at h1
    unfold zhnd at h2
    cases hb : Nat.beq a E with
    | true =>
      rw [hb] at h2
      obtain rfl := Option.some.inj h2
      obtain rfl := Nat.eq_of_beq_eq_true hb
      obtain ⟨i, hi, h3⟩ := List.any_eq_true.mp h1.1
      exact ⟨i, List.mem_range.mp hi, h3⟩
    | false =>
      rw [hb] at h2
      exact zhps_to r h1.2 h2
theorem zcall_to {call : Nat → List Value → List zE → Option zO} {e : zI} {ip : Nat} {ls : zL} {st : List Value} {w : List zE} {q : zN} (h : zcall call e ip ls st w = some q) : ∃ (mi j j2 : Nat) (hs : List Nat) (M : zM) (av rest : List Value) (o : zO), e.2.2.2 = mi :: j :: j2 :: hs ∧ zp[mi]? = some M ∧ st = av.reverse ++ rest ∧ zsum rest ≤ 8 ∧ av.any zdbl = false ∧ av.length = znarg M.2.2.2.2.2.1 M.2.2.2.2.2.2.1 ∧ zrecv M.2.2.2.2.2.1 M.2.2.2.2.2.2.2.1 av w = true ∧ call mi av w = some o ∧ w.length ≤ o.2.2.1.length ∧
    ((o.1 = 0 ∧ q = (ip + 1, ls, o.2.1.toList ++ rest, o.2.2.1, o.2.2.2.1, o.2.2.2.2)) ∨ ∃ E t, o.1 = E + 1 ∧ zhnd E hs = some t ∧ ls.any (fun q => zdbl q.2) = false ∧ q = (t, ls, [.double 1], o.2.2.1, o.2.2.2.1, o.2.2.2.2)) := by
  unfold zcall at h
  split at h
  · rename_i mi j j2 hs hex
    split at h
    · cases h
    · rename_i M hM
      split at h
      rename_i av rest hcut
      split at h
      · cases h
      · rename_i hb
        simp only [Bool.and_eq_true, Bool.not_eq_true'] at hb
        obtain ⟨b1, b2, b3, b4⟩ := hb
        split at h
        · cases h
        · rename_i o ho
          split at h
          · cases h
          · rename_i hwl
            have hav : av = (st.take (znarg M.2.2.2.2.2.1 M.2.2.2.2.2.2.1)).reverse := (congrArg Prod.fst hcut).symm
            have hre : rest = st.drop (znarg M.2.2.2.2.2.1 M.2.2.2.2.2.2.1) := (congrArg Prod.snd hcut).symm
            refine ⟨mi, j, j2, hs, M, av, rest, o, hex, hM, ?_, Nat.le_of_ble_eq_true b1, b2, Nat.eq_of_beq_eq_true b3, b4, ho, Nat.le_of_ble_eq_true hwl, ?_⟩
            · rw [hav, hre, List.reverse_reverse, List.take_append_drop]
            · split at h
              · rename_i h0
                exact Or.inl ⟨h0, (Option.some.inj h).symm⟩
              · rename_i E hE
                split at h
                · rename_i t ht hl
                  exact Or.inr ⟨E, t, hE, ht, hl, (Option.some.inj h).symm⟩
                · cases h
  · cases h
theorem zkind_1 {i : Instr} {ex : List Nat} (h : zkind i ex = 1) : (∃ k, i = .invokevirtual k) ∨ (∃ k, i = .invokestatic k) ∨ (∃ k, i = .invokespecial k) := by
  unfold zkind at h
  split at h
  all_goals first | (cases h; done) | exact Or.inl ⟨_, rfl⟩ | exact Or.inr (Or.inl ⟨_, rfl⟩) | exact Or.inr (Or.inr ⟨_, rfl⟩) | (split at h <;> cases h)
theorem zrecv_0 {ci : Nat} {av : List Value} {w : List zE} (h : zrecv 0 ci av w = true) : ∃ (b : Nat) (as : List Value) (o : Nat × List Value), av = .ref b :: as ∧ w[b]? = some (.inr o) ∧ (o.1 = ci ∨ ci = 99) := by
  cases av with
  | nil => exact absurd (show false = true from h) (by decide)
  | cons v as =>
    cases v with
    | ref b =>
      replace h : (match w[b]? with
        | some (.inr o) => Nat.beq o.1 ci || Nat.beq ci 99
        | _ => false) = true := h
      split at h
      · rename_i o ho
        rw [Bool.or_eq_true] at h
        exact ⟨b, as, o, rfl, ho, h.imp Nat.eq_of_beq_eq_true Nat.eq_of_beq_eq_true⟩
      · cases h
    | _ => exact absurd (show false = true from h) (by decide)
theorem zrecv_2 {ci : Nat} {av : List Value} {w : List zE} (h : zrecv 2 ci av w = true) : ∃ (b : Nat) (as : List Value), av = .ref b :: as := by
  cases av with
  | nil => exact absurd (show false = true from h) (by decide)
  | cons v as =>
    cases v with
    | ref b => exact ⟨b, as, rfl⟩
    | _ => exact absurd (show false = true from h) (by decide)
theorem zws_code {M : zM} (h : M.2.2.2.2.1 = []) : Jvm.Cond.code M.1 M.2.1 M.2.2.1 M.2.2.2.1 ∈ zws M := by
  unfold zws
  rw [h]
  exact List.mem_cons_self
theorem zws_codeW {M : zM} {z : Nat × Nat × Nat × Nat} {zs : List (Nat × Nat × Nat × Nat)} (h : M.2.2.2.2.1 = z :: zs) : Jvm.Cond.codeWith M.1 M.2.1 M.2.2.1 M.2.2.2.1 (z :: zs) ∈ zws M := by
  unfold zws
  rw [h]
  exact List.mem_cons_self
theorem zstk1 {a : Value} {l r : List Value} : (a :: l).reverse ++ r = l.reverse ++ a :: r := by simp
section ZC
variable {p : Program} {l : Launch} {en : Env} {R : Room} {s : State} {m : MethodId} {args : Array Value} {below : List Frame} {meth : Method} {c : Code} {H : Heap} {locs : List Loc} {cells slots : Nat} {Q : State → Prop}
theorem zrun_of {mc ms : Nat} {g : JFrame} {rest : List Value} {Qa : State → Outcome → State → Prop} {XC : String → State → State → Prop} {free : Addr → Prop} (h : va_Run p l en R s m args below meth c H locs cells slots mc ms g rest Qa free) : vx_Run p l en R s m args below meth c H locs cells slots mc ms g rest Qa XC free := fun T hT X => Or.inl (h T hT X)
/-- behind a call -/
theorem zgo {D : va_G} {tc : Nat → ClassId} {rh : Nat → Int32} {ad : Nat → Nat} {w : List zE} {o : zO} {A : Nat → Prop} {a : Array Value} {mc ms pc : Nat} {lsC : Array Slot} {st0 rest : List Value}
    (hr : vx_Run p l en R s m args below meth c H locs cells slots mc ms (F0 m pc lsC st0) rest (zQc D tc rh ad H.size w o a) (zXC D tc rh ad H.size w o) (va_A (zw tc ad rh w) H.size))
    (hD : va_D A (zw tc ad rh w)) (hS : va_S A s.heap H locs) (hA : ∀ q, s.heap.size ≤ q → A q)
    (kx : ∀ (E : String) (k : Nat) (ce : Cell) (q9 : Addr) (ad' : Nat → Nat) (H1 : Heap) (locs1 : List Loc), o.1 = k + 1 → zexn[k]? = some E → (∀ k, k < w.length → ad' k = ad k) → va_P D zcl (zw tc ad' rh o.2.2.1) H1 → va_D A (zw tc ad' rh o.2.2.1) → zwf [] o.2.1.toList o.2.2.1 = true → va_S A s.heap H1 locs1 → H1[q9]? = some ce → ce.vm = .none → s.vm.findClass E = some ce.cls → vx_W p l en R s m args below meth c H1 locs1 (cells + mc) (slots + ms) Q (F0 m pc lsC rest) q9)
    (kk : ∀ (v : Option Value) (ad' : Nat → Nat) (H1 : Heap) (locs1 : List Loc), o.1 = 0 → (∀ k, k < w.length → ad' k = ad k) → va_P D zcl (zw tc ad' rh o.2.2.1) H1 → va_D A (zw tc ad' rh o.2.2.1) → zwf [] o.2.1.toList o.2.2.1 = true → va_S A s.heap H1 locs1 → (∀ sp, v = o.2.1.map (zv ad' sp rh)) → W p l en R s m args below meth c H1 locs1 (cells + mc) (slots + ms) Q (F0 m (pc + 3) lsC (v.toList ++ rest))) :
    W p l en R s m args below meth c H locs cells slots Q (F0 m pc lsC st0) := by
  intro T hT X
  have hF0 : ∀ q9, va_A (zw tc ad rh w) H.size q9 → A q9 := by
    intro q9 h
    rcases h with ⟨k, e, h⟩ | h
    · exact hD.2 k (q9, e) h
    · exact hA q9 (Nat.le_trans hS.1 h)
  rcases hr T hT X with ⟨v, st₀, t, T', L, h0, X', hL, e1, e2, ⟨ho, ad', ⟨b1, b2, b3, b4, b5⟩, hv⟩, st⟩ | ⟨q9, st₀, t, T', L, E, ce, h0, X', hL, e1, e2, ⟨k, ad', ho, hE, b1, b2, b3, b4, b5⟩, hce, hcv, hcl, st⟩
  · obtain ⟨k1, k2, k3⟩ := vx_keep h0 e1 hS (fun q9 _ h => hF0 q9 h) hF0 hL b5
    obtain ⟨t2, a1, a2⟩ := kk v ad' T'.heap (locs ++ L) ho b1 (by rw [e1]; exact b2) (b3.weaken (fun _ _ _ h => hF0 _ h)) b4 k3 (fun sp => Outcome.returned.inj (hv sp)) T' rfl X'
    exact ⟨t2, st t2 a1, a2⟩
  · obtain ⟨k1, k2, k3⟩ := vx_keep h0 e1 hS (fun q9 _ h => hF0 q9 h) hF0 hL b5
    obtain ⟨t2, a1, a2⟩ := kx E k ce q9 ad' T'.heap (locs ++ L) ho hE b1 (by rw [e1]; exact b2) (b3.weaken (fun _ _ _ h => hF0 _ h)) b4 k3 (by rw [e1]; exact hce) hcv hcl T' rfl X'
    exact ⟨t2, st.trans a1, a2⟩
end ZC
set_option maxHeartbeats 4000000 in
theorem zcall_ok {p : Program} {l : Launch} {en : Env} {R : Room} {s : State} {m : MethodId} {args : Array Value} {below : List Frame} {meth : Method} {c : Code} {H : Heap} {locs : List Loc} {cells slots : Nat} {Q : State → Prop}
    {cc : ByteArray} {own nm : String} {nL : Nat} {D : va_G} {tc : Nat → ClassId} {A : Nat → Prop} {rh : Nat → Int32} {ad sp : Nat → Nat} {cf : zF} {code : List zI} {ip : Nat} {ei : zI} {ls : zL} {st : List Value} {w : List zE} {q : zN} {lsC : Array Slot} {call : Nat → List Value → List zE → Option zO} {d : Nat} {hh : List (Nat × Nat × Nat × Nat)}
    (C : zC0 p s m args meth c cc own nm nL D tc A) (hcf : zcfok cf rh) (hcall : zOK l cf d call) (hT : hh ≠ [] → c.exceptionTable.toList = tableOf hh) (hzh : zhchk hh own code = true) (hzi : zikchk own code = true) (hRf : 9 + d ≤ R.frames) (hRl : 300 + 100 * d ≤ R.locals)
    (he : code[ip]? = some ei) (hck : zchk own nm cc code ip ei = true) (hkind : zkind ei.1 ei.2.2.2 = 1) (hst : zcall call ei ip ls st w = some q)
    (hP : va_P D zcl (zw tc ad rh w) H) (hD : va_D A (zw tc ad rh w)) (hS : va_S A s.heap H locs) (hl : lv_has lsC nL (zls ad sp rh ls)) (hw : zwf ls st w = true)
    (hrc : cells + q.2.2.2.2.1 ≤ R.cells) (hrs : slots + q.2.2.2.2.2 ≤ R.slots)
    (hk : zK (fun H locs k n g => W p l en R s m args below meth c H locs k n Q g) m D tc rh A s.heap nL code ad sp w.length q (cells + q.2.2.2.2.1) (slots + q.2.2.2.2.2)) :
    W p l en R s m args below meth c H locs cells slots Q (F0 m (zpc code ip) lsC (zst ad sp rh st)) := by
  obtain ⟨mi, j, j2, hs, M, av, rest, o, hex, hM, rfl, hsum, hnd, hlen, hrecv, hco, hwl, hq⟩ := zcall_to hst
  obtain ⟨m1, m2, m3, m4, m5, m6, m7, m8, m9, -, -, -⟩ := zm_to (zp_all M (List.mem_of_getElem? hM))
  have hC := C
  obtain ⟨hx, hb, hown, hK, hts, hZ, hA, hnm, hmL⟩ := C
  obtain ⟨hw1, hw2, hw3⟩ := zwf_to hw
  rw [List.all_append, Bool.and_eq_true, List.all_reverse] at hw3
  have hmet := hcall mi av w o M hM hco D tc rh ad H.size hcf (zwf_of hw1 rfl hw3.1) hnd
  have hdq : q.2.2.2.2.1 = o.2.2.2.1 ∧ q.2.2.2.2.2 = o.2.2.2.2 := by
    rcases hq with ⟨-, rfl⟩ | ⟨_, _, -, -, -, rfl⟩ <;> exact ⟨rfl, rfl⟩
  have hfr : cells + o.2.2.2.1 ≤ R.cells ∧ slots + o.2.2.2.2 ≤ R.slots := by
    rw [← hdq.1, ← hdq.2]
    exact ⟨hrc, hrs⟩
  have hFc : ∀ q9, va_A (zw tc ad rh w) H.size q9 → A q9 := by
    intro q9 h
    rcases h with ⟨k, e, h⟩ | h
    · exact hD.2 k (q9, e) h
    · exact hA q9 (Nat.le_trans hS.1 h)
  have hPc : ∀ U : State, U.heap = H → s.WarmedH U.vm → zPc D tc rh ad H.size av w (zst ad zz rh av).toArray U := fun U hU hW => ⟨rfl, by rw [hU], by rw [hU]; exact hP, va_K.moved hW.alike hK, hD.self, by rw [hU]; exact zZ_narrow (zZ_warm hW (zZ_kept hZ hS.2.1)) hFc⟩
  have hpay : ∀ w9 ∈ zws M, ∀ (a' : Array Value) (U : State), s.WarmedH U.vm → w9.before a' U = true := pay_in hts (zgood m1)
  have hav : zst ad sp rh av = zst ad zz rh av := zst_nd hnd
  have hstk : zst ad sp rh (av.reverse ++ rest) = (zst ad zz rh av).reverse ++ zst ad sp rh rest := by
    rw [← hav]
    unfold zst
    rw [List.map_append, List.map_reverse]
  have hroom : (zrm d o).frames + 1 ≤ R.frames ∧ 8 + (M.2.2.1 + 11) + (zrm d o).locals ≤ R.locals := by
    show 8 + d + 1 ≤ R.frames ∧ 8 + (M.2.2.1 + 11) + (200 + 100 * d) ≤ R.locals
    omega
  have hpl : ∀ sig, parseMethodDescriptor M.1.desc = some sig → M.2.2.2.2.2.2.1 = sig.parameters.length := by
    intro sig h
    rw [h] at m6
    exact (Option.some.inj m6).symm
  have hCF : CallFix p m c cc nL s args ztbl own := ⟨hx, hb, hmL, hown, hts⟩
  have hsm8 : 2 * (F0 m (zpc code ip) lsC (zst ad sp rh (av.reverse ++ rest))).monitorRoom + ((zst ad sp rh rest).map fun v => v.category).sum ≤ 8 := lv_room (by rw [zsum_eq]; exact hsum)
  obtain ⟨i, pc, len, ex⟩ := ei
  have hpc : zpc code ip = pc := by simp [zpc, he]
  rw [hpc] at hsm8 ⊢
  unfold zchk at hck
  rw [Bool.and_eq_true, decide_eq_true_eq] at hck
  obtain ⟨hdec, hck⟩ := hck
  replace hdec : decode cc pc = .ok (i, len) := hdec
  replace hex : ex = mi :: j :: j2 :: hs := hex
  subst hex
  have hzie := List.all_eq_true.mp hzi _ (List.mem_of_getElem? he)
  have hzhe := List.all_eq_true.mp hzh _ (List.mem_of_getElem? he)
  have hmain : len = 3 ∧ zpc code (ip + 1) = pc + 3 ∧ vx_Run p l en R s m args below meth c H locs cells slots o.2.2.2.1 o.2.2.2.2 (F0 m pc lsC (zst ad sp rh (av.reverse ++ rest))) (zst ad sp rh rest) (zQc D tc rh ad H.size w o #[]) (zXC D tc rh ad H.size w o) (va_A (zw tc ad rh w) H.size) := by
    rcases zkind_1 hkind with ⟨idx, rfl⟩ | ⟨idx, rfl⟩ | ⟨idx, rfl⟩
    · obtain ⟨rfl, hft, hwd⟩ := zdx (n := 3) hck rfl
      refine ⟨rfl, hft, ?_⟩
      dsimp only at hwd hzie
      rw [hM] at hwd hzie
      dsimp only at hwd hzie
      simp only [Bool.and_eq_true, decide_eq_true_eq] at hwd hzie
      obtain ⟨w1, w2⟩ := hwd
      obtain ⟨z1, z2, z3, z4⟩ := hzie
      rw [z1] at hlen hrecv m3
      obtain ⟨b, as, o9, rfl, hob, hci⟩ := zrecv_0 hrecv
      have hci : o9.1 = M.2.2.2.2.2.2.2.1 := hci.resolve_right z4
      have hcw := zws_code z2
      obtain ⟨cq, hcq, hcn⟩ := Option.map_eq_some_iff.mp z3
      have hal : (zst ad zz rh as).length = M.2.2.2.2.2.2.1 := by
        rw [zst, List.length_map]
        exact Nat.succ.inj hlen
      have hre : ∃ cellB : Cell, H[ad b]? = some cellB ∧ cellB.vm.isStatics = false ∧ s.vm.findClass M.1.cls = some cellB.cls := by
        have := va_recv hK hP (ci := o9.1) (q0 := b) (by rw [hci]; exact hcq) (zw_at hob)
        rw [hcn] at this
        exact this
      exact vx_runV (n := M.2.2.2.2.2.2.1) (C := M.1.cls) (b := ad b) (As := zst ad zz rh as) (maxL := M.2.2.1) (bytes := M.2.1) (ret := M.2.2.2.1) hCF hmet ⟨⟨rfl, rfl, hroom.1, hroom.2, hpay, hcw, hts _ (m1 _ hcw), hts _ m2, ⟨m4, m5⟩, hpl, hts _ (zwd_to w1)⟩, hts _ m3, hts _ (zwd_to w2)⟩
        ⟨zPc_blind, hre, hPc⟩ rfl hal hl.1 (hstk.trans zstk1) hsm8 hdec hfr
    · obtain ⟨rfl, hft, hwd⟩ := zdx (n := 3) hck rfl
      refine ⟨rfl, hft, ?_⟩
      dsimp only at hwd hzie
      rw [hM] at hwd hzie
      dsimp only at hwd hzie
      simp only [Bool.and_eq_true, decide_eq_true_eq] at hwd hzie
      obtain ⟨z1, z2⟩ := hzie
      rw [z1] at hlen hrecv m3
      have hal : (zst ad zz rh av).length = M.2.2.2.2.2.2.1 := by
        rw [zst, List.length_map]
        exact hlen
      cases hh9 : M.2.2.2.2.1 with
      | nil =>
        have hcw := zws_code hh9
        exact vx_runS (n := M.2.2.2.2.2.2.1) (As := zst ad zz rh av) (maxL := M.2.2.1) (bytes := M.2.1) (ret := M.2.2.2.1) hCF hmet ⟨⟨rfl, rfl, hroom.1, hroom.2, hpay, hcw, hts _ (m1 _ hcw), hts _ m2, ⟨m4, m5⟩, hpl, hts _ (zwd_to hwd)⟩, hts _ m3⟩
          ⟨zPc_blind, hPc⟩ rfl hal hl.1 hstk hsm8 hdec hfr
      | cons z zs =>
        have hcw := zws_codeW hh9
        exact vx_runSX (n := M.2.2.2.2.2.2.1) (As := zst ad zz rh av) (maxL := M.2.2.1) (bytes := M.2.1) (ret := M.2.2.2.1) (hh := z :: zs) hCF hmet ⟨⟨rfl, rfl, hroom.1, hroom.2, hpay, hcw⟩, hts _ (m1 _ hcw), hts _ m2, ⟨m4, m5⟩, hpl, hts _ (zwd_to hwd), hts _ m3⟩
          ⟨zPc_blind, hPc⟩ rfl hal hl.1 hstk hsm8 hdec hfr
    · obtain ⟨rfl, hft, hwd⟩ := zdx (n := 3) hck rfl
      refine ⟨rfl, hft, ?_⟩
      dsimp only at hwd hzie hzhe
      rw [hM] at hwd hzie
      dsimp only at hwd hzie
      simp only [Bool.and_eq_true, decide_eq_true_eq] at hwd hzie hzhe
      subst hzhe
      have ho : o.1 = 0 := by
        rcases hq with ⟨h9, -⟩ | ⟨_, _, -, h9, -, -⟩
        · exact h9
        · cases h9
      have hmet' := zMet_of hmet (fun E st t h => by
        obtain ⟨k, _, h9, -⟩ := h
        rw [ho] at h9
        cases h9)
      obtain ⟨z1, z2⟩ := hzie
      have hcw := zws_code z1
      have hk3 : M.2.2.2.2.2.1 = 0 ∨ M.2.2.2.2.2.1 = 1 ∨ M.2.2.2.2.2.1 = 2 := by omega
      rcases hk3 with hk3 | hk3 | hk3
      · rw [hk3] at hlen hrecv m3 z2
        replace z2 : (decide (M.1.name ≠ "<init>") && (match M.2.2.2.2.2.2.2.2.1 with
          | [_, _, _, j4, j5] => zwd j4 (.sameMethod M.1.cls M.1.cls M.1.name M.1.desc) && zwd j5 (.superclass own M.1.cls)
          | _ => false)) = true := z2
        rw [Bool.and_eq_true, decide_eq_true_eq] at z2
        obtain ⟨y1, y2⟩ := z2
        obtain ⟨b, as, o9, rfl, hob, hci⟩ := zrecv_0 hrecv
        split at y2
        · rename_i j4 j5 _
          simp only [Bool.and_eq_true] at y2
          obtain ⟨r9, hr9, -⟩ := hP b _ (zw_at hob)
          have hat : ClassAt s r9.1 (D.1 o9.1) := (hK.1 o9.1 r9 hr9).2
          have hal : (zst ad zz rh as).length = M.2.2.2.2.2.2.1 := by
            rw [zst, List.length_map]
            exact Nat.succ.inj hlen
          exact zrun_of (va_runSU (n := M.2.2.2.2.2.2.1) (C := r9.1) (b := ad b) (As := zst ad zz rh as) (maxL := M.2.2.1) (bytes := M.2.1) (ret := M.2.2.2.1) hat hCF hmet' ⟨⟨rfl, rfl, hroom.1, hroom.2, hpay, hcw⟩, hts _ (zwd_to hwd), hts _ (zwd_to y2.1), hts _ (zwd_to y2.2), hts _ m3, hts _ m2, hts _ (m1 _ hcw), y1, hpl⟩
            ⟨zPc_blind, va_recv hK hP hr9 (zw_at hob), hPc⟩ rfl hal hl.1 (hstk.trans zstk1) hsm8 hdec hfr)
        · cases y2
      · rw [hk3] at z2
        cases z2
      · rw [hk3] at hlen hrecv m3 z2
        replace z2 : (decide (M.1.name = "<init>") && decide (M.2.2.2.1 = none)) = true := z2
        rw [Bool.and_eq_true, decide_eq_true_eq, decide_eq_true_eq] at z2
        obtain ⟨b, as, rfl⟩ := zrecv_2 hrecv
        rw [z2.2] at hcw
        have hal : (zst ad zz rh as).length = M.2.2.2.2.2.2.1 := by
          rw [zst, List.length_map]
          exact Nat.succ.inj hlen
        exact zrun_of (va_runI (n := M.2.2.2.2.2.2.1) (b := ad b) (As := zst ad zz rh as) (maxL := M.2.2.1) (bytes := M.2.1) hCF hmet' ⟨⟨rfl, rfl, hroom.1, hroom.2, hpay, hcw, hts _ (m1 _ hcw), hts _ m2, ⟨m4, m5⟩, hpl, hts _ (zwd_to hwd)⟩, z2.1, hts _ m3⟩
          ⟨zPc_blind, hPc⟩ rfl hal hl.1 (hstk.trans zstk1) hsm8 hdec hfr)
  obtain ⟨rfl, hft, hrun⟩ := hmain
  refine zgo hrun hD hS hA ?_ ?_
  · intro E k ce q9 ad' H1 locs1 ho hE hext hP1 hD1 hwf1 hS1 hce hcv hcl
    rcases hq with ⟨h9, -⟩ | ⟨E9, t, h9, hn9, hld, rfl⟩
    · rw [ho] at h9
      cases h9
    · obtain rfl : E9 = k := Nat.succ.inj (h9.symm.trans ho)
      have hhs : zhps hh code pc hs = true ∧ (hs = [] ∨ own = "MacrocosmLaw") := by
        dsimp only at hzhe
        rcases zkind_1 hkind with ⟨idx, rfl⟩ | ⟨idx, rfl⟩ | ⟨idx, rfl⟩
        · dsimp only at hzhe
          simp only [Bool.and_eq_true, Bool.or_eq_true, decide_eq_true_eq] at hzhe
          exact hzhe
        · dsimp only at hzhe
          simp only [decide_eq_true_eq] at hzhe
          subst hzhe
          cases hn9
        · dsimp only at hzhe
          simp only [decide_eq_true_eq] at hzhe
          subst hzhe
          cases hn9
      obtain ⟨hps, hso⟩ := hhs
      have hso : own = "MacrocosmLaw" := by
        rcases hso with h | h
        · subst h
          cases hn9
        · exact h
      obtain ⟨i9, hi9, hrow⟩ := zhps_to hs hps hn9
      unfold zhrow at hrow
      split at hrow
      · rename_i nm9 x9 hnm9 hx9
        cases hE.symm.trans hnm9
        simp only [Bool.and_eq_true, decide_eq_true_eq] at hrow
        obtain ⟨⟨r1, r2, r3, r4, r5⟩, r6⟩ := hrow
        have hctok : ∀ (ct : Nat) (n9 : String), zctok ct n9 = true → (Jvm.Cond.classLink own ct n9).before args s = true := by
          intro ct n9 h
          unfold zctok at h
          obtain ⟨r, -, h⟩ := List.any_eq_true.mp h
          simp only [Bool.and_eq_true, decide_eq_true_eq] at h
          rw [hso]
          exact hts _ (zwd_to h.2.2)
        have hsp : tableOf hh = (tableOf hh).take i9 ++ x9 :: (tableOf hh).drop (i9 + 1) := by
          obtain ⟨hlt, hg⟩ := List.getElem?_eq_some_iff.mp hx9
          rw [← hg, ← List.drop_eq_getElem_cons hlt, List.take_append_drop]
        have g := hk ad' (fun j => if j = 1 then q9 else sp j) H1 locs1 lsC hext rfl hP1 hD1 hS1 (by
          have e9 : zls ad' (fun j => if j = 1 then q9 else sp j) rh ls = zls ad sp rh ls := by
            rw [zls_ext hext hw2]
            refine List.map_congr_left fun q hq => ?_
            rw [zv_nd (sp' := sp)]
            cases hd : zdbl q.2 with
            | false => rfl
            | true => rw [List.any_eq_true.mpr ⟨q, hq, hd⟩] at hld; cases hld
          rw [e9]
          exact hl) (zwf_of (zwf_to hwf1).1 (zwl_le hwl hw2) rfl) hwl
        dsimp only at g
        rw [← r3] at g
        exact vx_catch (E := E) (name := E) hown _ x9 _ ((hT (fun h => by rw [h] at hi9; exact absurd hi9 (Nat.not_lt_zero _))).trans hsp) (fun z hz => by
          have h9 := List.all_eq_true.mp r6 z hz
          simp only [Bool.or_eq_true, Bool.and_eq_true, decide_eq_true_eq] at h9
          rcases h9 with h9 | ⟨h9, h10⟩
          · exact Or.inl h9
          · obtain ⟨r, hr, h11⟩ := List.any_eq_true.mp h10
            simp only [Bool.and_eq_true, decide_eq_true_eq] at h11
            refine Or.inr ⟨h9, r.2, hctok _ _ h11.2, ?_⟩
            have := hZ.2.1 r hr
            rw [h11.1] at this
            exact this) (by simpa [covers] using r1) r2 (hctok _ _ r4) (va_Nw.use rfl (hZ.1 _ r5)) hce hcv hcl g
      · cases hrow
  · intro v ad' H1 locs1 ho hext hP1 hD1 hwf1 hS1 hv
    rcases hq with ⟨-, rfl⟩ | ⟨_, _, h9, -, -, -⟩
    · obtain ⟨f1, -, f3⟩ := zwf_to hwf1
      have g := hk ad' sp H1 locs1 lsC hext rfl hP1 hD1 hS1 (by rw [zls_ext hext hw2]; exact hl) (zwf_of f1 (zwl_le hwl hw2) (by rw [List.all_append, f3, zst_le hwl hw3.2]; rfl)) hwl
      dsimp only at g
      rw [hft] at g
      have e9 : zst ad' sp rh (o.2.1.toList ++ rest) = v.toList ++ zst ad sp rh rest := by
        rw [← zst_ext hext hw3.2, hv sp]
        unfold zst
        rw [List.map_append]
        cases o.2.1 <;> rfl
      rw [e9] at g
      exact g
    · rw [ho] at h9
      cases h9
