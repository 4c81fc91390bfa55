/-! Object(), max, min, arraycopy -/
section SIMD
variable {p : Program} {l : Launch} {e : Env} {R : Room} {s : State} {m : MethodId} {args : Array Value} {below : List Frame} {meth : Method} {c : Code} {Zf : State → Prop} {M : MRec} {B sb Lx : Nat} {xs : Nat → Int32} {D : va_G} {cI cJ cZ : ClassId} {d : Nat} {n0 b0 : Int}
theorem sd_obj (C : Cx p R s m args meth c M B sb Lx xs D cI cJ cZ d n0) (hd0 : d ≠ 0) {pc idx : Nat} {M' : MRec} {L S : List PV} {h : Hp} {a : Int} (hd : decode (mC M) pc = .ok (.invokespecial idx, 3)) (hcal : calT (mO M) idx = some (6, M')) (hw : wgt S + 12 ≤ mRl M) (hn : a ≠ -1) (hk : SimP p l e R s m args below meth c Zf M B sb Lx xs D cI cJ cZ n0 b0 (pc + 3) L S h) : SimP p l e R s m args below meth c Zf M B sb Lx xs D cI cJ cZ n0 b0 pc L ((2, a) :: S) h := by
  obtain ⟨hx, hb, hml, hown, hts, hnw, hK, hX, hR, hnm⟩ := C
  intro H locs cells slots ls hH hS hL hO hc hsc
  have hO2 : ∀ u ∈ S, okv (h (-3) 0) u := fun u hu => hO u (List.mem_cons_of_mem _ hu)
  have hlink : Cond.methodLink (RC (mO M)) idx objectInit ∈ gtbl := by
    rcases cal_ok hcal with ⟨-, w⟩ | ⟨z, -⟩ | ⟨z, -⟩ | ⟨z, -⟩ | ⟨-, -, z⟩
    · exact w
    · omega
    · omega
    · omega
    · omega
  have K := hk H locs cells slots ls hH hS hL hO2 hc hsc
  simp only [List.map_cons]
  rw [vl2 B sb hn]
  refine W.objInit (g := F0 m pc ls (.ref (adr B sb a) :: S.map (vl B sb))) hx hb hown (hts _ hlink) (hts _ w_oinst) (hts _ w_ocode) rfl (by rw [hml]; exact hL.2.2.1) rfl hd (by have := hR.1; omega) ?_ K
  show 2 * 0 + _ + 12 ≤ _
  rw [wgt_sum hO2]
  have := hR.2.1
  omega
theorem sd_max (C : Cx p R s m args meth c M B sb Lx xs D cI cJ cZ d n0) (hd0 : d ≠ 0) {pc idx : Nat} {M' : MRec} {L S : List PV} {h : Hp} {a b : Int} (hd : decode (mC M) pc = .ok (.invokestatic idx, 3)) (hcal : calT (mO M) idx = some (9, M')) (hw : wgt S + 13 ≤ mRl M) (hk : SimP p l e R s m args below meth c Zf M B sb Lx xs D cI cJ cZ n0 b0 (pc + 3) L ((0, if a < b then b else a) :: S) h) : SimP p l e R s m args below meth c Zf M B sb Lx xs D cI cJ cZ n0 b0 pc L ((0, b) :: (0, a) :: S) h := by
  obtain ⟨hx, hb, hml, hown, hts, hnw, hK, hX, hR, hnm⟩ := C
  intro H locs cells slots ls hH hS hL hO hc hsc
  have hb1 : in32 b := hO _ List.mem_cons_self
  have ha1 : in32 a := hO _ (List.mem_cons_of_mem _ List.mem_cons_self)
  have hO2 : ∀ u ∈ S, okv (h (-3) 0) u := fun u hu => hO u (List.mem_cons_of_mem _ (List.mem_cons_of_mem _ hu))
  have hlink : Cond.methodLink (RC (mO M)) idx Lib.Math.max.name ∈ gtbl := by
    rcases cal_ok hcal with ⟨z, w⟩ | ⟨z, w⟩ | ⟨z, w⟩ | ⟨z, w⟩ | ⟨-, -, z⟩
    · omega
    · omega
    · first | exact w | omega
    · first | exact w | omega
    · omega
  have K := hk H locs cells slots ls hH hS hL (okS_cons (show in32 (if a < b then b else a) by split <;> assumption) hO2) hc hsc
  simp only [List.map_cons] at K ⊢
  have e1 : (if Int32.ofInt a < Int32.ofInt b then Int32.ofInt b else Int32.ofInt a) = Int32.ofInt (if a < b then b else a) := by
    by_cases q : a < b
    · rw [if_pos ((o_lt ha1 hb1).mpr q), if_pos q]
    · rw [if_neg (fun z => q ((o_lt ha1 hb1).mp z)), if_neg q]
  refine va_mmax hx hb (by rw [hml]; exact hL.2.2.1.symm) hown (hts _ hlink) (hts _ w_maxst) (hts _ w_mini) (hts _ w_maxc) (by have := hR.1; omega) (by rw [wgt_sum hO2]; have := hR.2.1; omega) hc.2.2.1 hc.2.2.2 hd ?_
  rw [e1]
  exact K
theorem sd_min (C : Cx p R s m args meth c M B sb Lx xs D cI cJ cZ d n0) (hd0 : d ≠ 0) {pc idx : Nat} {M' : MRec} {L S : List PV} {h : Hp} {a b : Int} (hd : decode (mC M) pc = .ok (.invokestatic idx, 3)) (hcal : calT (mO M) idx = some (10, M')) (hw : wgt S + 13 ≤ mRl M) (hk : SimP p l e R s m args below meth c Zf M B sb Lx xs D cI cJ cZ n0 b0 (pc + 3) L ((0, if b < a then b else a) :: S) h) : SimP p l e R s m args below meth c Zf M B sb Lx xs D cI cJ cZ n0 b0 pc L ((0, b) :: (0, a) :: S) h := by
  obtain ⟨hx, hb, hml, hown, hts, hnw, hK, hX, hR, hnm⟩ := C
  intro H locs cells slots ls hH hS hL hO hc hsc
  have hb1 : in32 b := hO _ List.mem_cons_self
  have ha1 : in32 a := hO _ (List.mem_cons_of_mem _ List.mem_cons_self)
  have hO2 : ∀ u ∈ S, okv (h (-3) 0) u := fun u hu => hO u (List.mem_cons_of_mem _ (List.mem_cons_of_mem _ hu))
  have hlink : Cond.methodLink (RC (mO M)) idx Lib.Math.min.name ∈ gtbl := by
    rcases cal_ok hcal with ⟨z, w⟩ | ⟨z, w⟩ | ⟨z, w⟩ | ⟨z, w⟩ | ⟨-, -, z⟩
    · omega
    · omega
    · first | exact w | omega
    · first | exact w | omega
    · omega
  have K := hk H locs cells slots ls hH hS hL (okS_cons (show in32 (if b < a then b else a) by split <;> assumption) hO2) hc hsc
  simp only [List.map_cons] at K ⊢
  have e1 : (if Int32.ofInt b < Int32.ofInt a then Int32.ofInt b else Int32.ofInt a) = Int32.ofInt (if b < a then b else a) := by
    by_cases q : b < a
    · rw [if_pos ((o_lt hb1 ha1).mpr q), if_pos q]
    · rw [if_neg (fun z => q ((o_lt hb1 ha1).mp z)), if_neg q]
  refine va_mmin hx hb (by rw [hml]; exact hL.2.2.1.symm) hown (hts _ hlink) (hts _ w_minst) (hts _ w_mini) (hts _ w_minc) (by have := hR.1; omega) (by rw [wgt_sum hO2]; have := hR.2.1; omega) hc.2.2.1 hc.2.2.2 hd ?_
  rw [e1]
  exact K
theorem sd_copy (C : Cx p R s m args meth c M B sb Lx xs D cI cJ cZ d n0) (hd0 : d ≠ 0) {pc idx : Nat} {M' : MRec} {L S : List PV} {h : Hp} {a a0 n dp sp : Int} (hd : decode (mC M) pc = .ok (.invokestatic idx, 3)) (hcal : calT (mO M) idx = some (8, M')) (hw : wgt S + 18 ≤ mRl M) (ha : shK a = 11) (ha0 : shK a0 = 11) (h0 : 0 ≤ a) (h00 : 0 ≤ a0) (hn : 0 ≤ n) (hsp : 0 ≤ sp) (hdp : 0 ≤ dp) (hl0 : sp + n ≤ shN a0) (hl1 : dp + n ≤ shN a) (hk : SimP p l e R s m args below meth c Zf M B sb Lx xs D cI cJ cZ n0 b0 (pc + 3) L S (hcpy h a0 sp a dp n)) : SimP p l e R s m args below meth c Zf M B sb Lx xs D cI cJ cZ n0 b0 pc L ((0, n) :: (0, dp) :: (2, a) :: (0, sp) :: (2, a0) :: S) h := by
  obtain ⟨hx, hb, hml, hown, hts, hnw, hK, hX, hR, hnm⟩ := C
  intro H locs cells slots ls hH hS hL hO hc hsc
  obtain ⟨g0, gP, gz, gO⟩ := hH
  have i1 : in32 n := hO _ List.mem_cons_self
  have i2 : in32 dp := hO _ (List.mem_cons_of_mem _ List.mem_cons_self)
  have o3 : okv (h (-3) 0) (2, a) := hO _ (List.mem_cons_of_mem _ (List.mem_cons_of_mem _ List.mem_cons_self))
  have i4 : in32 sp := hO _ (List.mem_cons_of_mem _ (List.mem_cons_of_mem _ (List.mem_cons_of_mem _ List.mem_cons_self)))
  have o5 : okv (h (-3) 0) (2, a0) := hO _ (List.mem_cons_of_mem _ (List.mem_cons_of_mem _ (List.mem_cons_of_mem _ (List.mem_cons_of_mem _ List.mem_cons_self))))
  have hO2 : ∀ u ∈ S, okv (h (-3) 0) u := fun u hu => hO u (List.mem_cons_of_mem _ (List.mem_cons_of_mem _ (List.mem_cons_of_mem _ (List.mem_cons_of_mem _ (List.mem_cons_of_mem _ hu)))))
  have hlink : Cond.methodLink (RC (mO M)) idx arraycopyName ∈ gtbl := by
    rcases cal_ok hcal with ⟨z, w⟩ | ⟨z, w⟩ | ⟨z, w⟩ | ⟨z, w⟩ | ⟨-, -, z⟩
    · omega
    · exact w
    · omega
    · omega
    · omega
  have han := okv_ref o3 h0
  have han0 := okv_ref o5 h00
  have hq : a.toNat < (h (-3) 0).toNat := by omega
  have hq0 : a0.toNat < (h (-3) 0).toNat := by omega
  have hcast : ((a.toNat : Nat) : Int) = a := Int.toNat_of_nonneg h0
  have hcast0 : ((a0.toNat : Nat) : Int) = a0 := Int.toNat_of_nonneg h00
  have he := wsH_at B sb cI cJ cZ h hq
  rw [hcast, celE_i (by rw [hcast]; exact ha), hcast] at he
  have he0 := wsH_at B sb cI cJ cZ h hq0
  rw [hcast0, celE_i (by rw [hcast0]; exact ha0), hcast0] at he0
  have hoff : ∀ j : Nat, j ≠ a.toNat → hcpy h a0 sp a dp n j = h j := fun j hj => by funext k; unfold hcpy; rw [if_neg (by omega)]
  have hfun : (va_cpy (fun k : Nat => Int32.ofInt (h a0 k)) (fun k : Nat => Int32.ofInt (h a k)) sp.toNat dp.toNat n.toNat) = fun k : Nat => Int32.ofInt (hcpy h a0 sp a dp n a k) := by
    funext k
    unfold va_cpy hcpy
    by_cases z : dp.toNat ≤ k ∧ k < dp.toNat + n.toNat
    · rw [if_pos z, if_pos (by omega)]
      show Int32.ofInt (h a0 ((sp.toNat + (k - dp.toNat) : Nat) : Int)) = _
      rw [show ((sp.toNat + (k - dp.toNat) : Nat) : Int) = sp + ((k : Int) - dp) by omega]
    · rw [if_neg z, if_neg (by omega)]
  have hset : (wsH B sb cI cJ cZ (h (-3) 0).toNat h).set a.toNat (B + a.toNat, .inl (cI, (shN a).toNat, .inl (va_cpy (fun k : Nat => Int32.ofInt (h a0 k)) (fun k : Nat => Int32.ofInt (h a k)) sp.toNat dp.toNat n.toNat))) = wsH B sb cI cJ cZ (h (-3) 0).toNat (hcpy h a0 sp a dp n) := by
    rw [← wsH_set B sb cI cJ cZ (h := h) (h' := hcpy h a0 sp a dp n) hq hoff, hcast, celE_i (by rw [hcast]; exact ha), hcast, hfun]
  have e3 : ∀ k, hcpy h a0 sp a dp n (-3) k = h (-3) k := fun k => by unfold hcpy; rw [if_neg (by omega)]
  have e2 : ∀ k, hcpy h a0 sp a dp n (-2) k = h (-2) k := fun k => by unfold hcpy; rw [if_neg (by omega)]
  have hO' : okH (hcpy h a0 sp a dp n) := by
    intro j k h1 h2 h3 h4
    rw [e3] at h2 ⊢
    unfold hcpy
    by_cases z : j = a ∧ dp ≤ k ∧ k < dp + n
    · rw [if_pos z]
      have := gO a0 (sp + (k - dp)) h00 han0 (by omega) (by omega)
      rw [ha0] at this
      rw [z.1, ha]
      exact this
    · rw [if_neg z]; exact gO j k h1 h2 h3 h4
  simp only [List.map_cons]
  rw [vl_ref h0, vl_ref h00]
  have nl : ∀ {x : Int}, in32 x → 0 ≤ x → ¬ Int32.ofInt x < 0 := fun hx0 hx1 q => absurd ((o_lt hx0 (show in32 0 by unfold in32; omega)).mp q) (by omega)
  refine va_copyi hx hb (by rw [hml]; exact hL.2.2.1.symm) hown (hts _ hlink) (hts _ w_native) (hts _ w_acstat) (hts _ w_acini) hK gP (wsH_D B sb cI cJ cZ (h (-3) 0).toNat h) hS a0.toNat a.toNat 0 0 he0 he rfl rfl rfl (nl i4 hsp) (nl i2 hdp) (nl i1 hn) ?_ ?_ (fun i _ => rfl) (by have := hR.1; omega) (by rw [wgt_sum hO2]; have := hR.2.1; show _ + (5 + 2 + 11) ≤ _; omega) hd (fun H1 locs1 h1 _ h4 => ?_)
  · rw [o_clamp hsp i4, o_clamp hn i1]; omega
  · rw [o_clamp hdp i2, o_clamp hn i1]; omega
  rw [o_clamp hsp i4, o_clamp hn i1, o_clamp hdp i2, hset] at h1
  refine W_size g0 hX.2.2.1 h1 h4 hc.1 (fun hz => ?_)
  refine hk H1 locs1 cells slots ls ⟨by rw [e3]; exact g0, by rw [e3]; exact h1, by rw [e3]; exact hz, hO'⟩ h4 ?_ ?_ ?_ (fun k hk => by rw [e2]; exact hsc k hk)
  · rw [e3]; exact hL
  · rw [e3]; exact hO2
  · rw [e3, e3]; exact hc
end SIMD
