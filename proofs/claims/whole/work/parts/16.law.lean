/-! the law's own walk -/
def R_law : String := "CommitShardsLaw"
def lw_P (b : Addr) (xs : List Int32) (args : Array Value) (s : State) : Prop := args = #[.ref b] ∧ s.IntsAt b xs ∧ xs.length ≤ 2566 ∧ (Jvm.Cond.and given_1 narrow_1).before args s = true
def lw_Q (_ : Array Value) (s : State) (o : Outcome) (t : State) : Prop := o = .returned (some (.int 1)) ∧ Framed s o t [] 600000 7302250
def lw_Z (below : List Frame) (a : Array Value) (s : State) : State → Prop := fun t => ∃ o, t.status = .running ∧ Ended t below o ∧ lw_Q a s o t
/-- the law's own end, with 1 on the stack, nothing written that was there before, its room as the claim has it -/
theorem lw_ret {p : Program} {l : Launch} {e : Env} {s : State} {m : MethodId} {below : List Frame} {meth : Method} {c : Code} {b : Nat} (hx : p.tables.exec = Jvm.exec) (hb : c.code = code) (hr : meth.sig.returnType = ret) (hlocks : meth.locks = false) {pc : Nat} {H : Heap} {ls : Array Slot} (hdg : decode code pc = .ok (.ireturn, 1)) : W p l e room_1 s m #[Value.ref b] below meth c H [] 600000 7302250 (lw_Z below #[Value.ref b] s) (F0 m pc ls [.int 1]) := by
  intro T hT X
  obtain ⟨fs, hret, hrun, hended, hW, hframe⟩ := X.leave (v := some (.int 1)) (hlocks := hlocks) (fun h => by rw [hr] at h; cases h)
  have hmeth' : T.vm.method? m = some meth := X.method'
  refine ⟨T.setFrames fs, ?_, .returned (some (.int 1)), hrun, hended, rfl, ⟨_, rfl⟩, hW, hframe⟩
  jvm_step X.here [X.here.top, hx, hb, hdg, hmeth', hr, ret, narrow_b1]
  (try refine ⟨rfl, ?_⟩); (try refine ⟨rfl, ?_⟩)
  first | (intro acts; rw [hret _ acts rfl rfl rfl]) | rw [hret _ _ rfl rfl rfl]
  exact Steps.refl _
/-- what holds at the law's entry: the machine, the code, the tables' words (any of lw_tbl by 'hts w (by decide +kernel)'), the script of L ints xs at the cell b, what the Statement gives of the start (any of its parts by flat_of_before) -/
def lw_At (p : Program) (s : State) (m : MethodId) (meth : Method) (c : Code) (b L : Nat) (xs : Nat → Int32) : Prop :=
  p.tables.exec = Jvm.exec ∧ c.code = code ∧ meth.sig.returnType = ret ∧ c.maxLocals = 4 ∧ s.vm.findClass R_law = some m.cls ∧ (∀ w ∈ lw_tbl, w.before #[Value.ref b] s = true) ∧ va_X b L xs s s.heap ∧ b < s.heap.size ∧ meth.locks = false ∧ (Jvm.Cond.and given_1 narrow_1).before #[Value.ref b] s = true
/-- the script's cell -/
def xScr (G : xG) (s : State) (Ln : Nat) (xs : Nat → Int32) : Prop := s.isArrayOf (xsc G) .int ∧ (xsc G).vm ≠ .unknown ∧ (xsc G).slots.size = Ln ∧ ∀ j : Nat, j < Ln → (xsc G).slots[j]? = some (.int (xs j))
section XLAW
variable {p : Program} {l : Launch} {e : Env} {R : Room} {s : State} {m : MethodId} {args : Array Value} {below : List Frame} {meth : Method} {c : Code} {cells slots nL : Nat} {Q : State → Prop}
variable {cc : ByteArray} {own : String} {pc : Nat} {L : List (Nat × Value)} {st : List Value} {ρ : Type} {rr : ρ}
variable {G : xG} {z : Nat → Nat} {σ : Sg} {τ : Tg} {Ln : Nat} {xs : Nat → Int32}
theorem x_sld (C : xC p m c cc nL s args own meth R cells slots (xD G) (xcA G)) (hsc : xScr G s Ln xs) {x : Int32} {K : Nat → Option ρ} (hdg : decode cc pc = .ok (.iaload, 1)) (h : gdx x Ln K = some rr)
    (kk : ∀ k, k < Ln → K k = some rr → XW p l e R s m args below meth c cells slots nL (xbs G) Q (xRep G z σ τ) (pc + 1) L (.int (xs k) :: st)) : XW p l e R s m args below meth c cells slots nL (xbs G) Q (xRep G z σ τ) pc L (.int x :: .ref (xsb G) :: st) := by
  obtain ⟨hin, hlt, h⟩ := gdx_some h
  intro H locs ls hΩ hs hL
  exact W.iald (v := .int (xs x.toNatClampNeg)) C.1.1 C.1.2.1 hΩ.1.1 hsc.1 hsc.2.1 (by rw [hsc.2.2.1]; exact hin) (hsc.2.2.2 _ hlt) rfl rfl hdg (kk _ hlt h H locs ls hΩ hs hL)
theorem x_slen (C : xC p m c cc nL s args own meth R cells slots (xD G) (xcA G)) (hsc : xScr G s Ln xs) (hdg : decode cc pc = .ok (.arraylength, 1))
    (kk : XW p l e R s m args below meth c cells slots nL (xbs G) Q (xRep G z σ τ) (pc + 1) L (.int (nI Ln) :: st)) : XW p l e R s m args below meth c cells slots nL (xbs G) Q (xRep G z σ τ) pc L (.ref (xsb G) :: st) := by
  intro H locs ls hΩ hs hL
  exact W.alen (n := nI Ln) C.1.1 C.1.2.1 hΩ.1.1 hsc.1 (by rw [hsc.2.2.1]; rfl) rfl rfl hdg (kk H locs ls hΩ hs hL)
theorem x_lawret {b : Nat} (C : xC p m c cL_law 4 s #[Value.ref b] RL meth room_1 cells slots (xD G) (xcA G)) (C0 : lw_At p s m meth c b Ln xs) (hbs : xbs G = s.heap.size) {Ω : Heap → Prop} (hdg : decode code pc = .ok (.ireturn, 1)) : XW p l e room_1 s m #[Value.ref b] below meth c cells slots 4 (xbs G) (lw_Z below #[Value.ref b] s) Ω pc L [.int 1] := by
  intro H locs ls hΩ hs hL
  refine va_forget (fun q hq => by rw [← hbs]; exact hs q hq) ?_
  exact W.widen C.2.2.1.1 C.2.2.1.2 (lw_ret C0.1 C0.2.1 C0.2.2.1 C0.2.2.2.2.2.2.2.2.1 hdg)
end XLAW
def f_law_L (z : Nat → Nat) (xs : Nat → Int32) (Ln : Nat) : Nat → Int32 → Sg → Tg → Option Int32
  | 0, _, _, _ => none
  | n + 1, y, σ, τ => if ((nI Ln) - 5) < y then (some 1) else (gdx y Ln fun k2 => letv (xs k2) fun v3 => letv (v3 &&& 31) fun v4 => if v4 = 0 then (gdx (y + 1) Ln fun k6 => letv (xs k6) fun v7 => bnd2 (f_X10_begin z σ v7) fun r9 s10 => gdx (y + 1) Ln fun k11 => letv (xs k11) fun v12 => bnd2 (f_X11_begin z τ v12) fun r14 s15 => if r9 = r14 then (letv (y + 5) fun v17 => f_law_L z xs Ln n v17 s10 s15) else (some 0)) else (if v4 = 1 then (gdx (y + 1) Ln fun k19 => letv (xs k19) fun v20 => gdx (y + 2) Ln fun k21 => letv (xs k21) fun v22 => bnd2 (f_X10_read z σ v20 v22) fun r24 s25 => gdx (y + 1) Ln fun k26 => letv (xs k26) fun v27 => gdx (y + 2) Ln fun k28 => letv (xs k28) fun v29 => bnd2 (f_X11_read z τ v27 v29) fun r31 s32 => if (lg_cmp r24 r31) = 0 then (letv (y + 5) fun v34 => f_law_L z xs Ln n v34 s25 s32) else (some 0)) else (if v4 = 2 then (bnd1 (f_X10_readStatus z σ) fun r37 => bnd1 (f_X11_readStatus z τ) fun r39 => if r37 = r39 then (letv (y + 5) fun v41 => f_law_L z xs Ln n v41 σ τ) else (some 0)) else (if v4 = 3 then (gdx (y + 1) Ln fun k43 => letv (xs k43) fun v44 => gdx (y + 2) Ln fun k45 => letv (xs k45) fun v46 => gdx (y + 3) Ln fun k47 => letv (xs k47) fun v48 => gdx (y + 4) Ln fun k49 => letv (xs k49) fun v50 => bnd2 (f_X10_write z σ v44 v46 ((((v48).toInt64) <<< ((32).toInt64 &&& 63)) ||| (((v50).toInt64) &&& 4294967295))) fun r52 s53 => gdx (y + 1) Ln fun k54 => letv (xs k54) fun v55 => gdx (y + 2) Ln fun k56 => letv (xs k56) fun v57 => gdx (y + 3) Ln fun k58 => letv (xs k58) fun v59 => gdx (y + 4) Ln fun k60 => letv (xs k60) fun v61 => bnd2 (f_X11_write z τ v55 v57 ((((v59).toInt64) <<< ((32).toInt64 &&& 63)) ||| (((v61).toInt64) &&& 4294967295))) fun r63 s64 => if r52 = r63 then (letv (y + 5) fun v66 => f_law_L z xs Ln n v66 s53 s64) else (some 0)) else (if v4 = 4 then (gdx (y + 1) Ln fun k68 => letv (xs k68) fun v69 => bnd2 (f_X10_requestCommit z σ v69) fun r71 s72 => gdx (y + 1) Ln fun k73 => letv (xs k73) fun v74 => bnd2 (f_X11_requestCommit z τ v74) fun r76 s77 => if r71 = r76 then (letv (y + 5) fun v79 => f_law_L z xs Ln n v79 s72 s77) else (some 0)) else (if v4 = 5 then (gdx (y + 1) Ln fun k81 => letv (xs k81) fun v82 => bnd2 (f_X10_abort z σ v82) fun r84 s85 => gdx (y + 1) Ln fun k86 => letv (xs k86) fun v87 => bnd2 (f_X11_abort z τ v87) fun r89 s90 => if r84 = r89 then (letv (y + 5) fun v92 => f_law_L z xs Ln n v92 s85 s90) else (some 0)) else (if v4 = 6 then (gdx (y + 1) Ln fun k94 => letv (xs k94) fun v95 => bnd1 (f_X10_outcome z σ v95) fun r97 => gdx (y + 1) Ln fun k98 => letv (xs k98) fun v99 => bnd1 (f_X11_outcome z τ v99) fun r101 => if r97 = r101 then (letv (y + 5) fun v103 => f_law_L z xs Ln n v103 σ τ) else (some 0)) else (if v4 = 7 then (gdx (y + 1) Ln fun k105 => letv (xs k105) fun v106 => bnd1 (f_X10_committedValue z σ v106) fun r108 => gdx (y + 1) Ln fun k109 => letv (xs k109) fun v110 => bnd1 (f_X11_committedValue z τ v110) fun r112 => if (lg_cmp r108 r112) = 0 then (letv (y + 5) fun v114 => f_law_L z xs Ln n v114 σ τ) else (some 0)) else (if v4 = 8 then (gdx (y + 1) Ln fun k116 => letv (xs k116) fun v117 => bnd2 (f_X10_deliver z σ v117) fun r119 s120 => gdx (y + 1) Ln fun k121 => letv (xs k121) fun v122 => bnd2 (f_X11_deliver z τ v122) fun r124 s125 => if r119 = r124 then (letv (y + 5) fun v127 => f_law_L z xs Ln n v127 s120 s125) else (some 0)) else (if v4 = 9 then (gdx (y + 1) Ln fun k129 => letv (xs k129) fun v130 => bnd2 (f_X10_drop z σ v130) fun r132 s133 => gdx (y + 1) Ln fun k134 => letv (xs k134) fun v135 => bnd2 (f_X11_drop z τ v135) fun r137 s138 => if r132 = r137 then (letv (y + 5) fun v140 => f_law_L z xs Ln n v140 s133 s138) else (some 0)) else (if v4 = 10 then (gdx (y + 1) Ln fun k142 => letv (xs k142) fun v143 => bnd2 (f_X10_twice z σ v143) fun r145 s146 => gdx (y + 1) Ln fun k147 => letv (xs k147) fun v148 => bnd2 (f_X11_twice z τ v148) fun r150 s151 => if r145 = r150 then (letv (y + 5) fun v153 => f_law_L z xs Ln n v153 s146 s151) else (some 0)) else (if v4 = 11 then (gdx (y + 1) Ln fun k155 => letv (xs k155) fun v156 => gdx (y + 2) Ln fun k157 => letv (xs k157) fun v158 => bnd2 (f_X10_timeout z σ v156 v158) fun r160 s161 => gdx (y + 1) Ln fun k162 => letv (xs k162) fun v163 => gdx (y + 2) Ln fun k164 => letv (xs k164) fun v165 => bnd2 (f_X11_timeout z τ v163 v165) fun r167 s168 => if r160 = r167 then (letv (y + 5) fun v170 => f_law_L z xs Ln n v170 s161 s168) else (some 0)) else (if v4 = 12 then (gdx (y + 1) Ln fun k172 => letv (xs k172) fun v173 => bnd2 (f_X10_crash z σ v173) fun r175 s176 => gdx (y + 1) Ln fun k177 => letv (xs k177) fun v178 => bnd2 (f_X11_crash z τ v178) fun r180 s181 => if r175 = r180 then (letv (y + 5) fun v183 => f_law_L z xs Ln n v183 s176 s181) else (some 0)) else (if v4 = 13 then (gdx (y + 1) Ln fun k185 => letv (xs k185) fun v186 => bnd2 (f_X10_restart z σ v186) fun r188 s189 => gdx (y + 1) Ln fun k190 => letv (xs k190) fun v191 => bnd2 (f_X11_restart z τ v191) fun r193 s194 => if r188 = r193 then (letv (y + 5) fun v196 => f_law_L z xs Ln n v196 s189 s194) else (some 0)) else (if v4 = 14 then (bnd1 (f_X10_pending z σ) fun r199 => bnd1 (f_X11_pending z τ) fun r201 => if r199 = r201 then (letv (y + 5) fun v203 => f_law_L z xs Ln n v203 σ τ) else (some 0)) else (if v4 = 15 then (gdx (y + 1) Ln fun k205 => letv (xs k205) fun v206 => gdx (y + 2) Ln fun k207 => letv (xs k207) fun v208 => gdx (y + 3) Ln fun k209 => letv (xs k209) fun v210 => bnd2 (f_X10_play z σ ((((v206).toInt64) <<< ((32).toInt64 &&& 63)) ||| (((v208).toInt64) &&& 4294967295)) v210) fun r212 s213 => gdx (y + 1) Ln fun k214 => letv (xs k214) fun v215 => gdx (y + 2) Ln fun k216 => letv (xs k216) fun v217 => gdx (y + 3) Ln fun k218 => letv (xs k218) fun v219 => bnd2 (f_X11_play z τ ((((v215).toInt64) <<< ((32).toInt64 &&& 63)) ||| (((v217).toInt64) &&& 4294967295)) v219) fun r221 s222 => if r212 = r221 then (letv (y + 5) fun v224 => f_law_L z xs Ln n v224 s213 s222) else (some 0)) else (if v4 = 16 then (gdx (y + 1) Ln fun k226 => letv (xs k226) fun v227 => gdx (y + 2) Ln fun k228 => letv (xs k228) fun v229 => bnd1 (f_X10_message z σ v227 v229) fun r231 => gdx (y + 1) Ln fun k232 => letv (xs k232) fun v233 => gdx (y + 2) Ln fun k234 => letv (xs k234) fun v235 => bnd1 (f_X11_message z τ v233 v235) fun r237 => if r231 = r237 then (letv (y + 5) fun v239 => f_law_L z xs Ln n v239 σ τ) else (some 0)) else (if v4 = 17 then (gdx (y + 1) Ln fun k241 => letv (xs k241) fun v242 => gdx (y + 2) Ln fun k243 => letv (xs k243) fun v244 => bnd1 (f_X10_lock z σ v242 v244) fun r246 => gdx (y + 1) Ln fun k247 => letv (xs k247) fun v248 => gdx (y + 2) Ln fun k249 => letv (xs k249) fun v250 => bnd1 (f_X11_lock z τ v248 v250) fun r252 => if r246 = r252 then (letv (y + 5) fun v254 => f_law_L z xs Ln n v254 σ τ) else (some 0)) else (if v4 = 18 then (gdx (y + 1) Ln fun k256 => letv (xs k256) fun v257 => gdx (y + 2) Ln fun k258 => letv (xs k258) fun v259 => bnd1 (f_X10_node z σ v257 v259) fun r261 => gdx (y + 1) Ln fun k262 => letv (xs k262) fun v263 => gdx (y + 2) Ln fun k264 => letv (xs k264) fun v265 => bnd1 (f_X11_node z τ v263 v265) fun r267 => if r261 = r267 then (letv (y + 5) fun v269 => f_law_L z xs Ln n v269 σ τ) else (some 0)) else (if v4 = 19 then (gdx (y + 1) Ln fun k271 => letv (xs k271) fun v272 => gdx (y + 2) Ln fun k273 => letv (xs k273) fun v274 => gdx (y + 3) Ln fun k275 => letv (xs k275) fun v276 => bnd1 (f_X10_entry z σ v272 v274 v276) fun r278 => gdx (y + 1) Ln fun k279 => letv (xs k279) fun v280 => gdx (y + 2) Ln fun k281 => letv (xs k281) fun v282 => gdx (y + 3) Ln fun k283 => letv (xs k283) fun v284 => bnd1 (f_X11_entry z τ v280 v282 v284) fun r286 => if r278 = r286 then (letv (y + 5) fun v288 => f_law_L z xs Ln n v288 σ τ) else (some 0)) else (if v4 = 20 then (gdx (y + 1) Ln fun k290 => letv (xs k290) fun v291 => gdx (y + 2) Ln fun k292 => letv (xs k292) fun v293 => gdx (y + 3) Ln fun k294 => letv (xs k294) fun v295 => bnd1 (f_X10_ballot z σ v291 v293 v295) fun r297 => gdx (y + 1) Ln fun k298 => letv (xs k298) fun v299 => gdx (y + 2) Ln fun k300 => letv (xs k300) fun v301 => gdx (y + 3) Ln fun k302 => letv (xs k302) fun v303 => bnd1 (f_X11_ballot z τ v299 v301 v303) fun r305 => if r297 = r305 then (letv (y + 5) fun v307 => f_law_L z xs Ln n v307 σ τ) else (some 0)) else (if v4 = 21 then (gdx (y + 1) Ln fun k309 => letv (xs k309) fun v310 => gdx (y + 2) Ln fun k311 => letv (xs k311) fun v312 => gdx (y + 3) Ln fun k313 => letv (xs k313) fun v314 => gdx (y + 4) Ln fun k315 => letv (xs k315) fun v316 => bnd1 (f_X10_accepted z σ v310 v312 v314 v316) fun r318 => gdx (y + 1) Ln fun k319 => letv (xs k319) fun v320 => gdx (y + 2) Ln fun k321 => letv (xs k321) fun v322 => gdx (y + 3) Ln fun k323 => letv (xs k323) fun v324 => gdx (y + 4) Ln fun k325 => letv (xs k325) fun v326 => bnd1 (f_X11_accepted z τ v320 v322 v324 v326) fun r328 => if r318 = r328 then (letv (y + 5) fun v330 => f_law_L z xs Ln n v330 σ τ) else (some 0)) else (if v4 = 22 then (gdx (y + 1) Ln fun k332 => letv (xs k332) fun v333 => bnd1 (f_X10_count z σ v333) fun r335 => gdx (y + 1) Ln fun k336 => letv (xs k336) fun v337 => bnd1 (f_X11_count z τ v337) fun r339 => if r335 = r339 then (letv (y + 5) fun v341 => f_law_L z xs Ln n v341 σ τ) else (some 0)) else (letv (y + 5) fun v342 => f_law_L z xs Ln n v342 σ τ))))))))))))))))))))))))
set_option maxRecDepth 100000 in
set_option maxHeartbeats 40000000 in
theorem law_loop {p : Program} {l : Launch} {e : Env} {s : State} {m : MethodId} {below : List Frame} {meth : Method} {c : Code} {b Ln cells slots : Nat} {xs : Nat → Int32} {G : xG} {z : Nat → Nat} (C0 : lw_At p s m meth c b Ln xs) (hbs : xbs G = s.heap.size) (C : xC p m c cL_law 4 s #[Value.ref b] RL meth room_1 cells slots (xD G) (xcA G)) (hsc : xScr G s Ln xs) : ∀ (n : Nat) (y : Int32) (σ : Sg) (τ : Tg), f_law_L z xs Ln n y σ τ = some 1 → XW p l e room_1 s m #[Value.ref b] below meth c cells slots 4 (xbs G) (lw_Z below #[Value.ref b] s) (xRep G z σ τ) 79 [(0, .ref (xsb G)), (1, .ref (xad G 0 0 0)), (2, .ref (xaM G 0)), (3, .int y)] [] := by
  intro n
  induction n with
  | zero =>
    intro y σ τ h
    exact absurd h (by rw [f_law_L]; intro q; cases q)
  | succ n ih =>
    intro y σ τ h
    rw [f_law_L] at h
    refine x_iload_n C dL_law_79 rfl (q := 3) rfl ?_
    refine x_aload_n C dL_law_80 rfl (q := 0) rfl ?_
    refine x_slen C hsc dL_law_81 ?_
    refine x_iconst C (v := 5) dL_law_82 (by decide) ?_
    refine x_isub C dL_law_83 ?_
    refine x_icmp_gt C (tgt := 927) dL_law_84 (by decide) h (fun hc1 h => ?_) (fun hc1 h => ?_)
    · refine x_iconst C (v := 1) dL_law_927 (by decide) ?_
      exact x_lawret C C0 hbs dL_law_928
    · refine x_aload_n C dL_law_87 rfl (q := 0) rfl ?_
      refine x_iload_n C dL_law_88 rfl (q := 3) rfl ?_
      refine x_sld C hsc dL_law_89 h (fun k2 hk2 h => ?_)
      refine x_letI h (fun v3 h => ?_)
      refine x_bipush C (v := 31) dL_law_90 (by decide) ?_
      refine x_iand C dL_law_92 ?_
      refine x_letI h (fun v4 h => ?_)
      refine x_ite h (fun hc5 h => ?_) (fun hc5 h => ?_)
      · refine x_tableIn C (off := 107) (tgt := 200) dL_law_93 0 hc5 (by decide) (by decide) rfl (by decide) ?_
        refine x_aload_n C dL_law_200 rfl (q := 1) rfl ?_
        refine x_aload_n C dL_law_201 rfl (q := 0) rfl ?_
        refine x_iload_n C dL_law_202 rfl (q := 3) rfl ?_
        refine x_iconst C (v := 1) dL_law_203 (by decide) ?_
        refine x_iadd C dL_law_204 ?_
        refine x_sld C hsc dL_law_205 h (fun k6 hk6 h => ?_)
        refine x_letI h (fun v7 h => ?_)
        obtain ⟨r9, s10, hq8, h⟩ := bnd2_some h
        refine x_callV_i C (m_X10_begin hq8) wv_L_21 (x_recv C.2.2.2 cl_X10 (dm_0 z) rfl) rfl (Nat.le_of_ble_eq_true rfl) ⟨⟨rfl, rfl⟩, Nat.le_of_ble_eq_true rfl, Nat.le_of_ble_eq_true rfl⟩ dL_law_206 rfl ?_
        refine x_aload_n C dL_law_209 rfl (q := 2) rfl ?_
        refine x_aload_n C dL_law_210 rfl (q := 0) rfl ?_
        refine x_iload_n C dL_law_211 rfl (q := 3) rfl ?_
        refine x_iconst C (v := 1) dL_law_212 (by decide) ?_
        refine x_iadd C dL_law_213 ?_
        refine x_sld C hsc dL_law_214 h (fun k11 hk11 h => ?_)
        refine x_letI h (fun v12 h => ?_)
        obtain ⟨r14, s15, hq13, h⟩ := bnd2_some h
        refine x_callV_i C (m_X11_begin hq13) wv_L_25 (m_recv C.2.2.2 cl_X11 rfl) rfl (Nat.le_of_ble_eq_true rfl) ⟨⟨rfl, rfl⟩, Nat.le_of_ble_eq_true rfl, Nat.le_of_ble_eq_true rfl⟩ dL_law_215 rfl ?_
        refine x_icmp_eq C (tgt := 921) dL_law_218 (by decide) h (fun hc16 h => ?_) (fun hc16 h => ?_)
        · refine x_iincL C (w := 5) (L' := fun v17 => [(3, .int v17), (0, .ref (xsb G)), (1, .ref (xad G 0 0 0)), (2, .ref (xaM G 0))]) dL_law_921 (k := 3) rfl (by decide) (by decide) (fun _ => rfl) h (fun v17 h => ?_)
          refine x_goto C (tgt := 79) dL_law_924 (by decide) ?_
          exact x_sub [1, 2, 3, 0] rfl (ih _ _ _ h)
        · refine x_iconst C (v := 0) dL_law_221 (by decide) ?_
          exact absurd h (by decide)
      · refine x_ite h (fun hc18 h => ?_) (fun hc18 h => ?_)
        · refine x_tableIn C (off := 130) (tgt := 223) dL_law_93 1 hc18 (by decide) (by decide) rfl (by decide) ?_
          refine x_aload_n C dL_law_223 rfl (q := 1) rfl ?_
          refine x_aload_n C dL_law_224 rfl (q := 0) rfl ?_
          refine x_iload_n C dL_law_225 rfl (q := 3) rfl ?_
          refine x_iconst C (v := 1) dL_law_226 (by decide) ?_
          refine x_iadd C dL_law_227 ?_
          refine x_sld C hsc dL_law_228 h (fun k19 hk19 h => ?_)
          refine x_letI h (fun v20 h => ?_)
          refine x_aload_n C dL_law_229 rfl (q := 0) rfl ?_
          refine x_iload_n C dL_law_230 rfl (q := 3) rfl ?_
          refine x_iconst C (v := 2) dL_law_231 (by decide) ?_
          refine x_iadd C dL_law_232 ?_
          refine x_sld C hsc dL_law_233 h (fun k21 hk21 h => ?_)
          refine x_letI h (fun v22 h => ?_)
          obtain ⟨r24, s25, hq23, h⟩ := bnd2_some h
          refine x_callV_l C (m_X10_read hq23) wv_L_26 (x_recv C.2.2.2 cl_X10 (dm_0 z) rfl) rfl (Nat.le_of_ble_eq_true rfl) ⟨⟨rfl, rfl⟩, Nat.le_of_ble_eq_true rfl, Nat.le_of_ble_eq_true rfl⟩ dL_law_234 rfl ?_
          refine x_aload_n C dL_law_237 rfl (q := 2) rfl ?_
          refine x_aload_n C dL_law_238 rfl (q := 0) rfl ?_
          refine x_iload_n C dL_law_239 rfl (q := 3) rfl ?_
          refine x_iconst C (v := 1) dL_law_240 (by decide) ?_
          refine x_iadd C dL_law_241 ?_
          refine x_sld C hsc dL_law_242 h (fun k26 hk26 h => ?_)
          refine x_letI h (fun v27 h => ?_)
          refine x_aload_n C dL_law_243 rfl (q := 0) rfl ?_
          refine x_iload_n C dL_law_244 rfl (q := 3) rfl ?_
          refine x_iconst C (v := 2) dL_law_245 (by decide) ?_
          refine x_iadd C dL_law_246 ?_
          refine x_sld C hsc dL_law_247 h (fun k28 hk28 h => ?_)
          refine x_letI h (fun v29 h => ?_)
          obtain ⟨r31, s32, hq30, h⟩ := bnd2_some h
          refine x_callV_l C (m_X11_read hq30) wv_L_30 (m_recv C.2.2.2 cl_X11 rfl) rfl (Nat.le_of_ble_eq_true rfl) ⟨⟨rfl, rfl⟩, Nat.le_of_ble_eq_true rfl, Nat.le_of_ble_eq_true rfl⟩ dL_law_248 rfl ?_
          refine x_lcmp C dL_law_251 ?_
          refine x_if_eq C (tgt := 921) dL_law_252 (by decide) h (fun hc33 h => ?_) (fun hc33 h => ?_)
          · refine x_iincL C (w := 5) (L' := fun v34 => [(3, .int v34), (0, .ref (xsb G)), (1, .ref (xad G 0 0 0)), (2, .ref (xaM G 0))]) dL_law_921 (k := 3) rfl (by decide) (by decide) (fun _ => rfl) h (fun v34 h => ?_)
            refine x_goto C (tgt := 79) dL_law_924 (by decide) ?_
            exact x_sub [1, 2, 3, 0] rfl (ih _ _ _ h)
          · refine x_iconst C (v := 0) dL_law_255 (by decide) ?_
            exact absurd h (by decide)
        · refine x_ite h (fun hc35 h => ?_) (fun hc35 h => ?_)
          · refine x_tableIn C (off := 164) (tgt := 257) dL_law_93 2 hc35 (by decide) (by decide) rfl (by decide) ?_
            refine x_aload_n C dL_law_257 rfl (q := 1) rfl ?_
            obtain ⟨r37, hq36, h⟩ := bnd1_some h
            refine x_callV_i C (m_X10_readStatus hq36) wv_L_31 (x_recv C.2.2.2 cl_X10 (dm_0 z) rfl) rfl (Nat.le_of_ble_eq_true rfl) ⟨⟨rfl, rfl⟩, Nat.le_of_ble_eq_true rfl, Nat.le_of_ble_eq_true rfl⟩ dL_law_258 rfl ?_
            refine x_aload_n C dL_law_261 rfl (q := 2) rfl ?_
            obtain ⟨r39, hq38, h⟩ := bnd1_some h
            refine x_callV_i C (m_X11_readStatus hq38) wv_L_35 (m_recv C.2.2.2 cl_X11 rfl) rfl (Nat.le_of_ble_eq_true rfl) ⟨⟨rfl, rfl⟩, Nat.le_of_ble_eq_true rfl, Nat.le_of_ble_eq_true rfl⟩ dL_law_262 rfl ?_
            refine x_icmp_eq C (tgt := 921) dL_law_265 (by decide) h (fun hc40 h => ?_) (fun hc40 h => ?_)
            · refine x_iincL C (w := 5) (L' := fun v41 => [(3, .int v41), (0, .ref (xsb G)), (1, .ref (xad G 0 0 0)), (2, .ref (xaM G 0))]) dL_law_921 (k := 3) rfl (by decide) (by decide) (fun _ => rfl) h (fun v41 h => ?_)
              refine x_goto C (tgt := 79) dL_law_924 (by decide) ?_
              exact x_sub [1, 2, 3, 0] rfl (ih _ _ _ h)
            · refine x_iconst C (v := 0) dL_law_268 (by decide) ?_
              exact absurd h (by decide)
          · refine x_ite h (fun hc42 h => ?_) (fun hc42 h => ?_)
            · refine x_tableIn C (off := 177) (tgt := 270) dL_law_93 3 hc42 (by decide) (by decide) rfl (by decide) ?_
              refine x_aload_n C dL_law_270 rfl (q := 1) rfl ?_
              refine x_aload_n C dL_law_271 rfl (q := 0) rfl ?_
              refine x_iload_n C dL_law_272 rfl (q := 3) rfl ?_
              refine x_iconst C (v := 1) dL_law_273 (by decide) ?_
              refine x_iadd C dL_law_274 ?_
              refine x_sld C hsc dL_law_275 h (fun k43 hk43 h => ?_)
              refine x_letI h (fun v44 h => ?_)
              refine x_aload_n C dL_law_276 rfl (q := 0) rfl ?_
              refine x_iload_n C dL_law_277 rfl (q := 3) rfl ?_
              refine x_iconst C (v := 2) dL_law_278 (by decide) ?_
              refine x_iadd C dL_law_279 ?_
              refine x_sld C hsc dL_law_280 h (fun k45 hk45 h => ?_)
              refine x_letI h (fun v46 h => ?_)
              refine x_aload_n C dL_law_281 rfl (q := 0) rfl ?_
              refine x_iload_n C dL_law_282 rfl (q := 3) rfl ?_
              refine x_iconst C (v := 3) dL_law_283 (by decide) ?_
              refine x_iadd C dL_law_284 ?_
              refine x_sld C hsc dL_law_285 h (fun k47 hk47 h => ?_)
              refine x_letI h (fun v48 h => ?_)
              refine x_i2l C dL_law_286 ?_
              refine x_bipush C (v := 32) dL_law_287 (by decide) ?_
              refine x_lshl C dL_law_289 rfl ?_
              refine x_aload_n C dL_law_290 rfl (q := 0) rfl ?_
              refine x_iload_n C dL_law_291 rfl (q := 3) rfl ?_
              refine x_iconst C (v := 4) dL_law_292 (by decide) ?_
              refine x_iadd C dL_law_293 ?_
              refine x_sld C hsc dL_law_294 h (fun k49 hk49 h => ?_)
              refine x_letI h (fun v50 h => ?_)
              refine x_i2l C dL_law_295 ?_
              refine x_ldc2_w C wc_L_36 dL_law_296 ?_
              refine x_land C dL_law_299 ?_
              refine x_lor C dL_law_300 ?_
              obtain ⟨r52, s53, hq51, h⟩ := bnd2_some h
              refine x_callV_i C (m_X10_write hq51) wv_L_38 (x_recv C.2.2.2 cl_X10 (dm_0 z) rfl) rfl (Nat.le_of_ble_eq_true rfl) ⟨⟨rfl, rfl⟩, Nat.le_of_ble_eq_true rfl, Nat.le_of_ble_eq_true rfl⟩ dL_law_301 rfl ?_
              refine x_aload_n C dL_law_304 rfl (q := 2) rfl ?_
              refine x_aload_n C dL_law_305 rfl (q := 0) rfl ?_
              refine x_iload_n C dL_law_306 rfl (q := 3) rfl ?_
              refine x_iconst C (v := 1) dL_law_307 (by decide) ?_
              refine x_iadd C dL_law_308 ?_
              refine x_sld C hsc dL_law_309 h (fun k54 hk54 h => ?_)
              refine x_letI h (fun v55 h => ?_)
              refine x_aload_n C dL_law_310 rfl (q := 0) rfl ?_
              refine x_iload_n C dL_law_311 rfl (q := 3) rfl ?_
              refine x_iconst C (v := 2) dL_law_312 (by decide) ?_
              refine x_iadd C dL_law_313 ?_
              refine x_sld C hsc dL_law_314 h (fun k56 hk56 h => ?_)
              refine x_letI h (fun v57 h => ?_)
              refine x_aload_n C dL_law_315 rfl (q := 0) rfl ?_
              refine x_iload_n C dL_law_316 rfl (q := 3) rfl ?_
              refine x_iconst C (v := 3) dL_law_317 (by decide) ?_
              refine x_iadd C dL_law_318 ?_
              refine x_sld C hsc dL_law_319 h (fun k58 hk58 h => ?_)
              refine x_letI h (fun v59 h => ?_)
              refine x_i2l C dL_law_320 ?_
              refine x_bipush C (v := 32) dL_law_321 (by decide) ?_
              refine x_lshl C dL_law_323 rfl ?_
              refine x_aload_n C dL_law_324 rfl (q := 0) rfl ?_
              refine x_iload_n C dL_law_325 rfl (q := 3) rfl ?_
              refine x_iconst C (v := 4) dL_law_326 (by decide) ?_
              refine x_iadd C dL_law_327 ?_
              refine x_sld C hsc dL_law_328 h (fun k60 hk60 h => ?_)
              refine x_letI h (fun v61 h => ?_)
              refine x_i2l C dL_law_329 ?_
              refine x_ldc2_w C wc_L_36 dL_law_330 ?_
              refine x_land C dL_law_333 ?_
              refine x_lor C dL_law_334 ?_
              obtain ⟨r63, s64, hq62, h⟩ := bnd2_some h
              refine x_callV_i C (m_X11_write hq62) wv_L_42 (m_recv C.2.2.2 cl_X11 rfl) rfl (Nat.le_of_ble_eq_true rfl) ⟨⟨rfl, rfl⟩, Nat.le_of_ble_eq_true rfl, Nat.le_of_ble_eq_true rfl⟩ dL_law_335 rfl ?_
              refine x_icmp_eq C (tgt := 921) dL_law_338 (by decide) h (fun hc65 h => ?_) (fun hc65 h => ?_)
              · refine x_iincL C (w := 5) (L' := fun v66 => [(3, .int v66), (0, .ref (xsb G)), (1, .ref (xad G 0 0 0)), (2, .ref (xaM G 0))]) dL_law_921 (k := 3) rfl (by decide) (by decide) (fun _ => rfl) h (fun v66 h => ?_)
                refine x_goto C (tgt := 79) dL_law_924 (by decide) ?_
                exact x_sub [1, 2, 3, 0] rfl (ih _ _ _ h)
              · refine x_iconst C (v := 0) dL_law_341 (by decide) ?_
                exact absurd h (by decide)
            · refine x_ite h (fun hc67 h => ?_) (fun hc67 h => ?_)
              · refine x_tableIn C (off := 250) (tgt := 343) dL_law_93 4 hc67 (by decide) (by decide) rfl (by decide) ?_
                refine x_aload_n C dL_law_343 rfl (q := 1) rfl ?_
                refine x_aload_n C dL_law_344 rfl (q := 0) rfl ?_
                refine x_iload_n C dL_law_345 rfl (q := 3) rfl ?_
                refine x_iconst C (v := 1) dL_law_346 (by decide) ?_
                refine x_iadd C dL_law_347 ?_
                refine x_sld C hsc dL_law_348 h (fun k68 hk68 h => ?_)
                refine x_letI h (fun v69 h => ?_)
                obtain ⟨r71, s72, hq70, h⟩ := bnd2_some h
                refine x_callV_i C (m_X10_requestCommit hq70) wv_L_43 (x_recv C.2.2.2 cl_X10 (dm_0 z) rfl) rfl (Nat.le_of_ble_eq_true rfl) ⟨⟨rfl, rfl⟩, Nat.le_of_ble_eq_true rfl, Nat.le_of_ble_eq_true rfl⟩ dL_law_349 rfl ?_
                refine x_aload_n C dL_law_352 rfl (q := 2) rfl ?_
                refine x_aload_n C dL_law_353 rfl (q := 0) rfl ?_
                refine x_iload_n C dL_law_354 rfl (q := 3) rfl ?_
                refine x_iconst C (v := 1) dL_law_355 (by decide) ?_
                refine x_iadd C dL_law_356 ?_
                refine x_sld C hsc dL_law_357 h (fun k73 hk73 h => ?_)
                refine x_letI h (fun v74 h => ?_)
                obtain ⟨r76, s77, hq75, h⟩ := bnd2_some h
                refine x_callV_i C (m_X11_requestCommit hq75) wv_L_46 (m_recv C.2.2.2 cl_X11 rfl) rfl (Nat.le_of_ble_eq_true rfl) ⟨⟨rfl, rfl⟩, Nat.le_of_ble_eq_true rfl, Nat.le_of_ble_eq_true rfl⟩ dL_law_358 rfl ?_
                refine x_icmp_eq C (tgt := 921) dL_law_361 (by decide) h (fun hc78 h => ?_) (fun hc78 h => ?_)
                · refine x_iincL C (w := 5) (L' := fun v79 => [(3, .int v79), (0, .ref (xsb G)), (1, .ref (xad G 0 0 0)), (2, .ref (xaM G 0))]) dL_law_921 (k := 3) rfl (by decide) (by decide) (fun _ => rfl) h (fun v79 h => ?_)
                  refine x_goto C (tgt := 79) dL_law_924 (by decide) ?_
                  exact x_sub [1, 2, 3, 0] rfl (ih _ _ _ h)
                · refine x_iconst C (v := 0) dL_law_364 (by decide) ?_
                  exact absurd h (by decide)
              · refine x_ite h (fun hc80 h => ?_) (fun hc80 h => ?_)
                · refine x_tableIn C (off := 273) (tgt := 366) dL_law_93 5 hc80 (by decide) (by decide) rfl (by decide) ?_
                  refine x_aload_n C dL_law_366 rfl (q := 1) rfl ?_
                  refine x_aload_n C dL_law_367 rfl (q := 0) rfl ?_
                  refine x_iload_n C dL_law_368 rfl (q := 3) rfl ?_
                  refine x_iconst C (v := 1) dL_law_369 (by decide) ?_
                  refine x_iadd C dL_law_370 ?_
                  refine x_sld C hsc dL_law_371 h (fun k81 hk81 h => ?_)
                  refine x_letI h (fun v82 h => ?_)
                  obtain ⟨r84, s85, hq83, h⟩ := bnd2_some h
                  refine x_callV_i C (m_X10_abort hq83) wv_L_47 (x_recv C.2.2.2 cl_X10 (dm_0 z) rfl) rfl (Nat.le_of_ble_eq_true rfl) ⟨⟨rfl, rfl⟩, Nat.le_of_ble_eq_true rfl, Nat.le_of_ble_eq_true rfl⟩ dL_law_372 rfl ?_
                  refine x_aload_n C dL_law_375 rfl (q := 2) rfl ?_
                  refine x_aload_n C dL_law_376 rfl (q := 0) rfl ?_
                  refine x_iload_n C dL_law_377 rfl (q := 3) rfl ?_
                  refine x_iconst C (v := 1) dL_law_378 (by decide) ?_
                  refine x_iadd C dL_law_379 ?_
                  refine x_sld C hsc dL_law_380 h (fun k86 hk86 h => ?_)
                  refine x_letI h (fun v87 h => ?_)
                  obtain ⟨r89, s90, hq88, h⟩ := bnd2_some h
                  refine x_callV_i C (m_X11_abort hq88) wv_L_50 (m_recv C.2.2.2 cl_X11 rfl) rfl (Nat.le_of_ble_eq_true rfl) ⟨⟨rfl, rfl⟩, Nat.le_of_ble_eq_true rfl, Nat.le_of_ble_eq_true rfl⟩ dL_law_381 rfl ?_
                  refine x_icmp_eq C (tgt := 921) dL_law_384 (by decide) h (fun hc91 h => ?_) (fun hc91 h => ?_)
                  · refine x_iincL C (w := 5) (L' := fun v92 => [(3, .int v92), (0, .ref (xsb G)), (1, .ref (xad G 0 0 0)), (2, .ref (xaM G 0))]) dL_law_921 (k := 3) rfl (by decide) (by decide) (fun _ => rfl) h (fun v92 h => ?_)
                    refine x_goto C (tgt := 79) dL_law_924 (by decide) ?_
                    exact x_sub [1, 2, 3, 0] rfl (ih _ _ _ h)
                  · refine x_iconst C (v := 0) dL_law_387 (by decide) ?_
                    exact absurd h (by decide)
                · refine x_ite h (fun hc93 h => ?_) (fun hc93 h => ?_)
                  · refine x_tableIn C (off := 296) (tgt := 389) dL_law_93 6 hc93 (by decide) (by decide) rfl (by decide) ?_
                    refine x_aload_n C dL_law_389 rfl (q := 1) rfl ?_
                    refine x_aload_n C dL_law_390 rfl (q := 0) rfl ?_
                    refine x_iload_n C dL_law_391 rfl (q := 3) rfl ?_
                    refine x_iconst C (v := 1) dL_law_392 (by decide) ?_
                    refine x_iadd C dL_law_393 ?_
                    refine x_sld C hsc dL_law_394 h (fun k94 hk94 h => ?_)
                    refine x_letI h (fun v95 h => ?_)
                    obtain ⟨r97, hq96, h⟩ := bnd1_some h
                    refine x_callV_i C (m_X10_outcome hq96) wv_L_51 (x_recv C.2.2.2 cl_X10 (dm_0 z) rfl) rfl (Nat.le_of_ble_eq_true rfl) ⟨⟨rfl, rfl⟩, Nat.le_of_ble_eq_true rfl, Nat.le_of_ble_eq_true rfl⟩ dL_law_395 rfl ?_
                    refine x_aload_n C dL_law_398 rfl (q := 2) rfl ?_
                    refine x_aload_n C dL_law_399 rfl (q := 0) rfl ?_
                    refine x_iload_n C dL_law_400 rfl (q := 3) rfl ?_
                    refine x_iconst C (v := 1) dL_law_401 (by decide) ?_
                    refine x_iadd C dL_law_402 ?_
                    refine x_sld C hsc dL_law_403 h (fun k98 hk98 h => ?_)
                    refine x_letI h (fun v99 h => ?_)
                    obtain ⟨r101, hq100, h⟩ := bnd1_some h
                    refine x_callV_i C (m_X11_outcome hq100) wv_L_54 (m_recv C.2.2.2 cl_X11 rfl) rfl (Nat.le_of_ble_eq_true rfl) ⟨⟨rfl, rfl⟩, Nat.le_of_ble_eq_true rfl, Nat.le_of_ble_eq_true rfl⟩ dL_law_404 rfl ?_
                    refine x_icmp_eq C (tgt := 921) dL_law_407 (by decide) h (fun hc102 h => ?_) (fun hc102 h => ?_)
                    · refine x_iincL C (w := 5) (L' := fun v103 => [(3, .int v103), (0, .ref (xsb G)), (1, .ref (xad G 0 0 0)), (2, .ref (xaM G 0))]) dL_law_921 (k := 3) rfl (by decide) (by decide) (fun _ => rfl) h (fun v103 h => ?_)
                      refine x_goto C (tgt := 79) dL_law_924 (by decide) ?_
                      exact x_sub [1, 2, 3, 0] rfl (ih _ _ _ h)
                    · refine x_iconst C (v := 0) dL_law_410 (by decide) ?_
                      exact absurd h (by decide)
                  · refine x_ite h (fun hc104 h => ?_) (fun hc104 h => ?_)
                    · refine x_tableIn C (off := 319) (tgt := 412) dL_law_93 7 hc104 (by decide) (by decide) rfl (by decide) ?_
                      refine x_aload_n C dL_law_412 rfl (q := 1) rfl ?_
                      refine x_aload_n C dL_law_413 rfl (q := 0) rfl ?_
                      refine x_iload_n C dL_law_414 rfl (q := 3) rfl ?_
                      refine x_iconst C (v := 1) dL_law_415 (by decide) ?_
                      refine x_iadd C dL_law_416 ?_
                      refine x_sld C hsc dL_law_417 h (fun k105 hk105 h => ?_)
                      refine x_letI h (fun v106 h => ?_)
                      obtain ⟨r108, hq107, h⟩ := bnd1_some h
                      refine x_callV_l C (m_X10_committedValue hq107) wv_L_55 (x_recv C.2.2.2 cl_X10 (dm_0 z) rfl) rfl (Nat.le_of_ble_eq_true rfl) ⟨⟨rfl, rfl⟩, Nat.le_of_ble_eq_true rfl, Nat.le_of_ble_eq_true rfl⟩ dL_law_418 rfl ?_
                      refine x_aload_n C dL_law_421 rfl (q := 2) rfl ?_
                      refine x_aload_n C dL_law_422 rfl (q := 0) rfl ?_
                      refine x_iload_n C dL_law_423 rfl (q := 3) rfl ?_
                      refine x_iconst C (v := 1) dL_law_424 (by decide) ?_
                      refine x_iadd C dL_law_425 ?_
                      refine x_sld C hsc dL_law_426 h (fun k109 hk109 h => ?_)
                      refine x_letI h (fun v110 h => ?_)
                      obtain ⟨r112, hq111, h⟩ := bnd1_some h
                      refine x_callV_l C (m_X11_committedValue hq111) wv_L_59 (m_recv C.2.2.2 cl_X11 rfl) rfl (Nat.le_of_ble_eq_true rfl) ⟨⟨rfl, rfl⟩, Nat.le_of_ble_eq_true rfl, Nat.le_of_ble_eq_true rfl⟩ dL_law_427 rfl ?_
                      refine x_lcmp C dL_law_430 ?_
                      refine x_if_eq C (tgt := 921) dL_law_431 (by decide) h (fun hc113 h => ?_) (fun hc113 h => ?_)
                      · refine x_iincL C (w := 5) (L' := fun v114 => [(3, .int v114), (0, .ref (xsb G)), (1, .ref (xad G 0 0 0)), (2, .ref (xaM G 0))]) dL_law_921 (k := 3) rfl (by decide) (by decide) (fun _ => rfl) h (fun v114 h => ?_)
                        refine x_goto C (tgt := 79) dL_law_924 (by decide) ?_
                        exact x_sub [1, 2, 3, 0] rfl (ih _ _ _ h)
                      · refine x_iconst C (v := 0) dL_law_434 (by decide) ?_
                        exact absurd h (by decide)
                    · refine x_ite h (fun hc115 h => ?_) (fun hc115 h => ?_)
                      · refine x_tableIn C (off := 343) (tgt := 436) dL_law_93 8 hc115 (by decide) (by decide) rfl (by decide) ?_
                        refine x_aload_n C dL_law_436 rfl (q := 1) rfl ?_
                        refine x_aload_n C dL_law_437 rfl (q := 0) rfl ?_
                        refine x_iload_n C dL_law_438 rfl (q := 3) rfl ?_
                        refine x_iconst C (v := 1) dL_law_439 (by decide) ?_
                        refine x_iadd C dL_law_440 ?_
                        refine x_sld C hsc dL_law_441 h (fun k116 hk116 h => ?_)
                        refine x_letI h (fun v117 h => ?_)
                        obtain ⟨r119, s120, hq118, h⟩ := bnd2_some h
                        refine x_callV_i C (m_X10_deliver hq118) wv_L_60 (x_recv C.2.2.2 cl_X10 (dm_0 z) rfl) rfl (Nat.le_of_ble_eq_true rfl) ⟨⟨rfl, rfl⟩, Nat.le_of_ble_eq_true rfl, Nat.le_of_ble_eq_true rfl⟩ dL_law_442 rfl ?_
                        refine x_aload_n C dL_law_445 rfl (q := 2) rfl ?_
                        refine x_aload_n C dL_law_446 rfl (q := 0) rfl ?_
                        refine x_iload_n C dL_law_447 rfl (q := 3) rfl ?_
                        refine x_iconst C (v := 1) dL_law_448 (by decide) ?_
                        refine x_iadd C dL_law_449 ?_
                        refine x_sld C hsc dL_law_450 h (fun k121 hk121 h => ?_)
                        refine x_letI h (fun v122 h => ?_)
                        obtain ⟨r124, s125, hq123, h⟩ := bnd2_some h
                        refine x_callV_i C (m_X11_deliver hq123) wv_L_63 (m_recv C.2.2.2 cl_X11 rfl) rfl (Nat.le_of_ble_eq_true rfl) ⟨⟨rfl, rfl⟩, Nat.le_of_ble_eq_true rfl, Nat.le_of_ble_eq_true rfl⟩ dL_law_451 rfl ?_
                        refine x_icmp_eq C (tgt := 921) dL_law_454 (by decide) h (fun hc126 h => ?_) (fun hc126 h => ?_)
                        · refine x_iincL C (w := 5) (L' := fun v127 => [(3, .int v127), (0, .ref (xsb G)), (1, .ref (xad G 0 0 0)), (2, .ref (xaM G 0))]) dL_law_921 (k := 3) rfl (by decide) (by decide) (fun _ => rfl) h (fun v127 h => ?_)
                          refine x_goto C (tgt := 79) dL_law_924 (by decide) ?_
                          exact x_sub [1, 2, 3, 0] rfl (ih _ _ _ h)
                        · refine x_iconst C (v := 0) dL_law_457 (by decide) ?_
                          exact absurd h (by decide)
                      · refine x_ite h (fun hc128 h => ?_) (fun hc128 h => ?_)
                        · refine x_tableIn C (off := 366) (tgt := 459) dL_law_93 9 hc128 (by decide) (by decide) rfl (by decide) ?_
                          refine x_aload_n C dL_law_459 rfl (q := 1) rfl ?_
                          refine x_aload_n C dL_law_460 rfl (q := 0) rfl ?_
                          refine x_iload_n C dL_law_461 rfl (q := 3) rfl ?_
                          refine x_iconst C (v := 1) dL_law_462 (by decide) ?_
                          refine x_iadd C dL_law_463 ?_
                          refine x_sld C hsc dL_law_464 h (fun k129 hk129 h => ?_)
                          refine x_letI h (fun v130 h => ?_)
                          obtain ⟨r132, s133, hq131, h⟩ := bnd2_some h
                          refine x_callV_i C (m_X10_drop hq131) wv_L_64 (x_recv C.2.2.2 cl_X10 (dm_0 z) rfl) rfl (Nat.le_of_ble_eq_true rfl) ⟨⟨rfl, rfl⟩, Nat.le_of_ble_eq_true rfl, Nat.le_of_ble_eq_true rfl⟩ dL_law_465 rfl ?_
                          refine x_aload_n C dL_law_468 rfl (q := 2) rfl ?_
                          refine x_aload_n C dL_law_469 rfl (q := 0) rfl ?_
                          refine x_iload_n C dL_law_470 rfl (q := 3) rfl ?_
                          refine x_iconst C (v := 1) dL_law_471 (by decide) ?_
                          refine x_iadd C dL_law_472 ?_
                          refine x_sld C hsc dL_law_473 h (fun k134 hk134 h => ?_)
                          refine x_letI h (fun v135 h => ?_)
                          obtain ⟨r137, s138, hq136, h⟩ := bnd2_some h
                          refine x_callV_i C (m_X11_drop hq136) wv_L_67 (m_recv C.2.2.2 cl_X11 rfl) rfl (Nat.le_of_ble_eq_true rfl) ⟨⟨rfl, rfl⟩, Nat.le_of_ble_eq_true rfl, Nat.le_of_ble_eq_true rfl⟩ dL_law_474 rfl ?_
                          refine x_icmp_eq C (tgt := 921) dL_law_477 (by decide) h (fun hc139 h => ?_) (fun hc139 h => ?_)
                          · refine x_iincL C (w := 5) (L' := fun v140 => [(3, .int v140), (0, .ref (xsb G)), (1, .ref (xad G 0 0 0)), (2, .ref (xaM G 0))]) dL_law_921 (k := 3) rfl (by decide) (by decide) (fun _ => rfl) h (fun v140 h => ?_)
                            refine x_goto C (tgt := 79) dL_law_924 (by decide) ?_
                            exact x_sub [1, 2, 3, 0] rfl (ih _ _ _ h)
                          · refine x_iconst C (v := 0) dL_law_480 (by decide) ?_
                            exact absurd h (by decide)
                        · refine x_ite h (fun hc141 h => ?_) (fun hc141 h => ?_)
                          · refine x_tableIn C (off := 389) (tgt := 482) dL_law_93 10 hc141 (by decide) (by decide) rfl (by decide) ?_
                            refine x_aload_n C dL_law_482 rfl (q := 1) rfl ?_
                            refine x_aload_n C dL_law_483 rfl (q := 0) rfl ?_
                            refine x_iload_n C dL_law_484 rfl (q := 3) rfl ?_
                            refine x_iconst C (v := 1) dL_law_485 (by decide) ?_
                            refine x_iadd C dL_law_486 ?_
                            refine x_sld C hsc dL_law_487 h (fun k142 hk142 h => ?_)
                            refine x_letI h (fun v143 h => ?_)
                            obtain ⟨r145, s146, hq144, h⟩ := bnd2_some h
                            refine x_callV_i C (m_X10_twice hq144) wv_L_68 (x_recv C.2.2.2 cl_X10 (dm_0 z) rfl) rfl (Nat.le_of_ble_eq_true rfl) ⟨⟨rfl, rfl⟩, Nat.le_of_ble_eq_true rfl, Nat.le_of_ble_eq_true rfl⟩ dL_law_488 rfl ?_
                            refine x_aload_n C dL_law_491 rfl (q := 2) rfl ?_
                            refine x_aload_n C dL_law_492 rfl (q := 0) rfl ?_
                            refine x_iload_n C dL_law_493 rfl (q := 3) rfl ?_
                            refine x_iconst C (v := 1) dL_law_494 (by decide) ?_
                            refine x_iadd C dL_law_495 ?_
                            refine x_sld C hsc dL_law_496 h (fun k147 hk147 h => ?_)
                            refine x_letI h (fun v148 h => ?_)
                            obtain ⟨r150, s151, hq149, h⟩ := bnd2_some h
                            refine x_callV_i C (m_X11_twice hq149) wv_L_71 (m_recv C.2.2.2 cl_X11 rfl) rfl (Nat.le_of_ble_eq_true rfl) ⟨⟨rfl, rfl⟩, Nat.le_of_ble_eq_true rfl, Nat.le_of_ble_eq_true rfl⟩ dL_law_497 rfl ?_
                            refine x_icmp_eq C (tgt := 921) dL_law_500 (by decide) h (fun hc152 h => ?_) (fun hc152 h => ?_)
                            · refine x_iincL C (w := 5) (L' := fun v153 => [(3, .int v153), (0, .ref (xsb G)), (1, .ref (xad G 0 0 0)), (2, .ref (xaM G 0))]) dL_law_921 (k := 3) rfl (by decide) (by decide) (fun _ => rfl) h (fun v153 h => ?_)
                              refine x_goto C (tgt := 79) dL_law_924 (by decide) ?_
                              exact x_sub [1, 2, 3, 0] rfl (ih _ _ _ h)
                            · refine x_iconst C (v := 0) dL_law_503 (by decide) ?_
                              exact absurd h (by decide)
                          · refine x_ite h (fun hc154 h => ?_) (fun hc154 h => ?_)
                            · refine x_tableIn C (off := 412) (tgt := 505) dL_law_93 11 hc154 (by decide) (by decide) rfl (by decide) ?_
                              refine x_aload_n C dL_law_505 rfl (q := 1) rfl ?_
                              refine x_aload_n C dL_law_506 rfl (q := 0) rfl ?_
                              refine x_iload_n C dL_law_507 rfl (q := 3) rfl ?_
                              refine x_iconst C (v := 1) dL_law_508 (by decide) ?_
                              refine x_iadd C dL_law_509 ?_
                              refine x_sld C hsc dL_law_510 h (fun k155 hk155 h => ?_)
                              refine x_letI h (fun v156 h => ?_)
                              refine x_aload_n C dL_law_511 rfl (q := 0) rfl ?_
                              refine x_iload_n C dL_law_512 rfl (q := 3) rfl ?_
                              refine x_iconst C (v := 2) dL_law_513 (by decide) ?_
                              refine x_iadd C dL_law_514 ?_
                              refine x_sld C hsc dL_law_515 h (fun k157 hk157 h => ?_)
                              refine x_letI h (fun v158 h => ?_)
                              obtain ⟨r160, s161, hq159, h⟩ := bnd2_some h
                              refine x_callV_i C (m_X10_timeout hq159) wv_L_72 (x_recv C.2.2.2 cl_X10 (dm_0 z) rfl) rfl (Nat.le_of_ble_eq_true rfl) ⟨⟨rfl, rfl⟩, Nat.le_of_ble_eq_true rfl, Nat.le_of_ble_eq_true rfl⟩ dL_law_516 rfl ?_
                              refine x_aload_n C dL_law_519 rfl (q := 2) rfl ?_
                              refine x_aload_n C dL_law_520 rfl (q := 0) rfl ?_
                              refine x_iload_n C dL_law_521 rfl (q := 3) rfl ?_
                              refine x_iconst C (v := 1) dL_law_522 (by decide) ?_
                              refine x_iadd C dL_law_523 ?_
                              refine x_sld C hsc dL_law_524 h (fun k162 hk162 h => ?_)
                              refine x_letI h (fun v163 h => ?_)
                              refine x_aload_n C dL_law_525 rfl (q := 0) rfl ?_
                              refine x_iload_n C dL_law_526 rfl (q := 3) rfl ?_
                              refine x_iconst C (v := 2) dL_law_527 (by decide) ?_
                              refine x_iadd C dL_law_528 ?_
                              refine x_sld C hsc dL_law_529 h (fun k164 hk164 h => ?_)
                              refine x_letI h (fun v165 h => ?_)
                              obtain ⟨r167, s168, hq166, h⟩ := bnd2_some h
                              refine x_callV_i C (m_X11_timeout hq166) wv_L_76 (m_recv C.2.2.2 cl_X11 rfl) rfl (Nat.le_of_ble_eq_true rfl) ⟨⟨rfl, rfl⟩, Nat.le_of_ble_eq_true rfl, Nat.le_of_ble_eq_true rfl⟩ dL_law_530 rfl ?_
                              refine x_icmp_eq C (tgt := 921) dL_law_533 (by decide) h (fun hc169 h => ?_) (fun hc169 h => ?_)
                              · refine x_iincL C (w := 5) (L' := fun v170 => [(3, .int v170), (0, .ref (xsb G)), (1, .ref (xad G 0 0 0)), (2, .ref (xaM G 0))]) dL_law_921 (k := 3) rfl (by decide) (by decide) (fun _ => rfl) h (fun v170 h => ?_)
                                refine x_goto C (tgt := 79) dL_law_924 (by decide) ?_
                                exact x_sub [1, 2, 3, 0] rfl (ih _ _ _ h)
                              · refine x_iconst C (v := 0) dL_law_536 (by decide) ?_
                                exact absurd h (by decide)
                            · refine x_ite h (fun hc171 h => ?_) (fun hc171 h => ?_)
                              · refine x_tableIn C (off := 445) (tgt := 538) dL_law_93 12 hc171 (by decide) (by decide) rfl (by decide) ?_
                                refine x_aload_n C dL_law_538 rfl (q := 1) rfl ?_
                                refine x_aload_n C dL_law_539 rfl (q := 0) rfl ?_
                                refine x_iload_n C dL_law_540 rfl (q := 3) rfl ?_
                                refine x_iconst C (v := 1) dL_law_541 (by decide) ?_
                                refine x_iadd C dL_law_542 ?_
                                refine x_sld C hsc dL_law_543 h (fun k172 hk172 h => ?_)
                                refine x_letI h (fun v173 h => ?_)
                                obtain ⟨r175, s176, hq174, h⟩ := bnd2_some h
                                refine x_callV_i C (m_X10_crash hq174) wv_L_77 (x_recv C.2.2.2 cl_X10 (dm_0 z) rfl) rfl (Nat.le_of_ble_eq_true rfl) ⟨⟨rfl, rfl⟩, Nat.le_of_ble_eq_true rfl, Nat.le_of_ble_eq_true rfl⟩ dL_law_544 rfl ?_
                                refine x_aload_n C dL_law_547 rfl (q := 2) rfl ?_
                                refine x_aload_n C dL_law_548 rfl (q := 0) rfl ?_
                                refine x_iload_n C dL_law_549 rfl (q := 3) rfl ?_
                                refine x_iconst C (v := 1) dL_law_550 (by decide) ?_
                                refine x_iadd C dL_law_551 ?_
                                refine x_sld C hsc dL_law_552 h (fun k177 hk177 h => ?_)
                                refine x_letI h (fun v178 h => ?_)
                                obtain ⟨r180, s181, hq179, h⟩ := bnd2_some h
                                refine x_callV_i C (m_X11_crash hq179) wv_L_80 (m_recv C.2.2.2 cl_X11 rfl) rfl (Nat.le_of_ble_eq_true rfl) ⟨⟨rfl, rfl⟩, Nat.le_of_ble_eq_true rfl, Nat.le_of_ble_eq_true rfl⟩ dL_law_553 rfl ?_
                                refine x_icmp_eq C (tgt := 921) dL_law_556 (by decide) h (fun hc182 h => ?_) (fun hc182 h => ?_)
                                · refine x_iincL C (w := 5) (L' := fun v183 => [(3, .int v183), (0, .ref (xsb G)), (1, .ref (xad G 0 0 0)), (2, .ref (xaM G 0))]) dL_law_921 (k := 3) rfl (by decide) (by decide) (fun _ => rfl) h (fun v183 h => ?_)
                                  refine x_goto C (tgt := 79) dL_law_924 (by decide) ?_
                                  exact x_sub [1, 2, 3, 0] rfl (ih _ _ _ h)
                                · refine x_iconst C (v := 0) dL_law_559 (by decide) ?_
                                  exact absurd h (by decide)
                              · refine x_ite h (fun hc184 h => ?_) (fun hc184 h => ?_)
                                · refine x_tableIn C (off := 468) (tgt := 561) dL_law_93 13 hc184 (by decide) (by decide) rfl (by decide) ?_
                                  refine x_aload_n C dL_law_561 rfl (q := 1) rfl ?_
                                  refine x_aload_n C dL_law_562 rfl (q := 0) rfl ?_
                                  refine x_iload_n C dL_law_563 rfl (q := 3) rfl ?_
                                  refine x_iconst C (v := 1) dL_law_564 (by decide) ?_
                                  refine x_iadd C dL_law_565 ?_
                                  refine x_sld C hsc dL_law_566 h (fun k185 hk185 h => ?_)
                                  refine x_letI h (fun v186 h => ?_)
                                  obtain ⟨r188, s189, hq187, h⟩ := bnd2_some h
                                  refine x_callV_i C (m_X10_restart hq187) wv_L_81 (x_recv C.2.2.2 cl_X10 (dm_0 z) rfl) rfl (Nat.le_of_ble_eq_true rfl) ⟨⟨rfl, rfl⟩, Nat.le_of_ble_eq_true rfl, Nat.le_of_ble_eq_true rfl⟩ dL_law_567 rfl ?_
                                  refine x_aload_n C dL_law_570 rfl (q := 2) rfl ?_
                                  refine x_aload_n C dL_law_571 rfl (q := 0) rfl ?_
                                  refine x_iload_n C dL_law_572 rfl (q := 3) rfl ?_
                                  refine x_iconst C (v := 1) dL_law_573 (by decide) ?_
                                  refine x_iadd C dL_law_574 ?_
                                  refine x_sld C hsc dL_law_575 h (fun k190 hk190 h => ?_)
                                  refine x_letI h (fun v191 h => ?_)
                                  obtain ⟨r193, s194, hq192, h⟩ := bnd2_some h
                                  refine x_callV_i C (m_X11_restart hq192) wv_L_84 (m_recv C.2.2.2 cl_X11 rfl) rfl (Nat.le_of_ble_eq_true rfl) ⟨⟨rfl, rfl⟩, Nat.le_of_ble_eq_true rfl, Nat.le_of_ble_eq_true rfl⟩ dL_law_576 rfl ?_
                                  refine x_icmp_eq C (tgt := 921) dL_law_579 (by decide) h (fun hc195 h => ?_) (fun hc195 h => ?_)
                                  · refine x_iincL C (w := 5) (L' := fun v196 => [(3, .int v196), (0, .ref (xsb G)), (1, .ref (xad G 0 0 0)), (2, .ref (xaM G 0))]) dL_law_921 (k := 3) rfl (by decide) (by decide) (fun _ => rfl) h (fun v196 h => ?_)
                                    refine x_goto C (tgt := 79) dL_law_924 (by decide) ?_
                                    exact x_sub [1, 2, 3, 0] rfl (ih _ _ _ h)
                                  · refine x_iconst C (v := 0) dL_law_582 (by decide) ?_
                                    exact absurd h (by decide)
                                · refine x_ite h (fun hc197 h => ?_) (fun hc197 h => ?_)
                                  · refine x_tableIn C (off := 491) (tgt := 584) dL_law_93 14 hc197 (by decide) (by decide) rfl (by decide) ?_
                                    refine x_aload_n C dL_law_584 rfl (q := 1) rfl ?_
                                    obtain ⟨r199, hq198, h⟩ := bnd1_some h
                                    refine x_callV_i C (m_X10_pending hq198) wv_L_85 (x_recv C.2.2.2 cl_X10 (dm_0 z) rfl) rfl (Nat.le_of_ble_eq_true rfl) ⟨⟨rfl, rfl⟩, Nat.le_of_ble_eq_true rfl, Nat.le_of_ble_eq_true rfl⟩ dL_law_585 rfl ?_
                                    refine x_aload_n C dL_law_588 rfl (q := 2) rfl ?_
                                    obtain ⟨r201, hq200, h⟩ := bnd1_some h
                                    refine x_callV_i C (m_X11_pending hq200) wv_L_88 (m_recv C.2.2.2 cl_X11 rfl) rfl (Nat.le_of_ble_eq_true rfl) ⟨⟨rfl, rfl⟩, Nat.le_of_ble_eq_true rfl, Nat.le_of_ble_eq_true rfl⟩ dL_law_589 rfl ?_
                                    refine x_icmp_eq C (tgt := 921) dL_law_592 (by decide) h (fun hc202 h => ?_) (fun hc202 h => ?_)
                                    · refine x_iincL C (w := 5) (L' := fun v203 => [(3, .int v203), (0, .ref (xsb G)), (1, .ref (xad G 0 0 0)), (2, .ref (xaM G 0))]) dL_law_921 (k := 3) rfl (by decide) (by decide) (fun _ => rfl) h (fun v203 h => ?_)
                                      refine x_goto C (tgt := 79) dL_law_924 (by decide) ?_
                                      exact x_sub [1, 2, 3, 0] rfl (ih _ _ _ h)
                                    · refine x_iconst C (v := 0) dL_law_595 (by decide) ?_
                                      exact absurd h (by decide)
                                  · refine x_ite h (fun hc204 h => ?_) (fun hc204 h => ?_)
                                    · refine x_tableIn C (off := 504) (tgt := 597) dL_law_93 15 hc204 (by decide) (by decide) rfl (by decide) ?_
                                      refine x_aload_n C dL_law_597 rfl (q := 1) rfl ?_
                                      refine x_aload_n C dL_law_598 rfl (q := 0) rfl ?_
                                      refine x_iload_n C dL_law_599 rfl (q := 3) rfl ?_
                                      refine x_iconst C (v := 1) dL_law_600 (by decide) ?_
                                      refine x_iadd C dL_law_601 ?_
                                      refine x_sld C hsc dL_law_602 h (fun k205 hk205 h => ?_)
                                      refine x_letI h (fun v206 h => ?_)
                                      refine x_i2l C dL_law_603 ?_
                                      refine x_bipush C (v := 32) dL_law_604 (by decide) ?_
                                      refine x_lshl C dL_law_606 rfl ?_
                                      refine x_aload_n C dL_law_607 rfl (q := 0) rfl ?_
                                      refine x_iload_n C dL_law_608 rfl (q := 3) rfl ?_
                                      refine x_iconst C (v := 2) dL_law_609 (by decide) ?_
                                      refine x_iadd C dL_law_610 ?_
                                      refine x_sld C hsc dL_law_611 h (fun k207 hk207 h => ?_)
                                      refine x_letI h (fun v208 h => ?_)
                                      refine x_i2l C dL_law_612 ?_
                                      refine x_ldc2_w C wc_L_36 dL_law_613 ?_
                                      refine x_land C dL_law_616 ?_
                                      refine x_lor C dL_law_617 ?_
                                      refine x_aload_n C dL_law_618 rfl (q := 0) rfl ?_
                                      refine x_iload_n C dL_law_619 rfl (q := 3) rfl ?_
                                      refine x_iconst C (v := 3) dL_law_620 (by decide) ?_
                                      refine x_iadd C dL_law_621 ?_
                                      refine x_sld C hsc dL_law_622 h (fun k209 hk209 h => ?_)
                                      refine x_letI h (fun v210 h => ?_)
                                      obtain ⟨r212, s213, hq211, h⟩ := bnd2_some h
                                      refine x_callV_i C (m_X10_play hq211) wv_L_89 (x_recv C.2.2.2 cl_X10 (dm_0 z) rfl) rfl (Nat.le_of_ble_eq_true rfl) ⟨⟨rfl, rfl⟩, Nat.le_of_ble_eq_true rfl, Nat.le_of_ble_eq_true rfl⟩ dL_law_623 rfl ?_
                                      refine x_aload_n C dL_law_626 rfl (q := 2) rfl ?_
                                      refine x_aload_n C dL_law_627 rfl (q := 0) rfl ?_
                                      refine x_iload_n C dL_law_628 rfl (q := 3) rfl ?_
                                      refine x_iconst C (v := 1) dL_law_629 (by decide) ?_
                                      refine x_iadd C dL_law_630 ?_
                                      refine x_sld C hsc dL_law_631 h (fun k214 hk214 h => ?_)
                                      refine x_letI h (fun v215 h => ?_)
                                      refine x_i2l C dL_law_632 ?_
                                      refine x_bipush C (v := 32) dL_law_633 (by decide) ?_
                                      refine x_lshl C dL_law_635 rfl ?_
                                      refine x_aload_n C dL_law_636 rfl (q := 0) rfl ?_
                                      refine x_iload_n C dL_law_637 rfl (q := 3) rfl ?_
                                      refine x_iconst C (v := 2) dL_law_638 (by decide) ?_
                                      refine x_iadd C dL_law_639 ?_
                                      refine x_sld C hsc dL_law_640 h (fun k216 hk216 h => ?_)
                                      refine x_letI h (fun v217 h => ?_)
                                      refine x_i2l C dL_law_641 ?_
                                      refine x_ldc2_w C wc_L_36 dL_law_642 ?_
                                      refine x_land C dL_law_645 ?_
                                      refine x_lor C dL_law_646 ?_
                                      refine x_aload_n C dL_law_647 rfl (q := 0) rfl ?_
                                      refine x_iload_n C dL_law_648 rfl (q := 3) rfl ?_
                                      refine x_iconst C (v := 3) dL_law_649 (by decide) ?_
                                      refine x_iadd C dL_law_650 ?_
                                      refine x_sld C hsc dL_law_651 h (fun k218 hk218 h => ?_)
                                      refine x_letI h (fun v219 h => ?_)
                                      obtain ⟨r221, s222, hq220, h⟩ := bnd2_some h
                                      refine x_callV_i C (m_X11_play hq220) wv_L_93 (m_recv C.2.2.2 cl_X11 rfl) rfl (Nat.le_of_ble_eq_true rfl) ⟨⟨rfl, rfl⟩, Nat.le_of_ble_eq_true rfl, Nat.le_of_ble_eq_true rfl⟩ dL_law_652 rfl ?_
                                      refine x_icmp_eq C (tgt := 921) dL_law_655 (by decide) h (fun hc223 h => ?_) (fun hc223 h => ?_)
                                      · refine x_iincL C (w := 5) (L' := fun v224 => [(3, .int v224), (0, .ref (xsb G)), (1, .ref (xad G 0 0 0)), (2, .ref (xaM G 0))]) dL_law_921 (k := 3) rfl (by decide) (by decide) (fun _ => rfl) h (fun v224 h => ?_)
                                        refine x_goto C (tgt := 79) dL_law_924 (by decide) ?_
                                        exact x_sub [1, 2, 3, 0] rfl (ih _ _ _ h)
                                      · refine x_iconst C (v := 0) dL_law_658 (by decide) ?_
                                        exact absurd h (by decide)
                                    · refine x_ite h (fun hc225 h => ?_) (fun hc225 h => ?_)
                                      · refine x_tableIn C (off := 567) (tgt := 660) dL_law_93 16 hc225 (by decide) (by decide) rfl (by decide) ?_
                                        refine x_aload_n C dL_law_660 rfl (q := 1) rfl ?_
                                        refine x_aload_n C dL_law_661 rfl (q := 0) rfl ?_
                                        refine x_iload_n C dL_law_662 rfl (q := 3) rfl ?_
                                        refine x_iconst C (v := 1) dL_law_663 (by decide) ?_
                                        refine x_iadd C dL_law_664 ?_
                                        refine x_sld C hsc dL_law_665 h (fun k226 hk226 h => ?_)
                                        refine x_letI h (fun v227 h => ?_)
                                        refine x_aload_n C dL_law_666 rfl (q := 0) rfl ?_
                                        refine x_iload_n C dL_law_667 rfl (q := 3) rfl ?_
                                        refine x_iconst C (v := 2) dL_law_668 (by decide) ?_
                                        refine x_iadd C dL_law_669 ?_
                                        refine x_sld C hsc dL_law_670 h (fun k228 hk228 h => ?_)
                                        refine x_letI h (fun v229 h => ?_)
                                        obtain ⟨r231, hq230, h⟩ := bnd1_some h
                                        refine x_callV_i C (m_X10_message hq230) wv_L_94 (x_recv C.2.2.2 cl_X10 (dm_0 z) rfl) rfl (Nat.le_of_ble_eq_true rfl) ⟨⟨rfl, rfl⟩, Nat.le_of_ble_eq_true rfl, Nat.le_of_ble_eq_true rfl⟩ dL_law_671 rfl ?_
                                        refine x_aload_n C dL_law_674 rfl (q := 2) rfl ?_
                                        refine x_aload_n C dL_law_675 rfl (q := 0) rfl ?_
                                        refine x_iload_n C dL_law_676 rfl (q := 3) rfl ?_
                                        refine x_iconst C (v := 1) dL_law_677 (by decide) ?_
                                        refine x_iadd C dL_law_678 ?_
                                        refine x_sld C hsc dL_law_679 h (fun k232 hk232 h => ?_)
                                        refine x_letI h (fun v233 h => ?_)
                                        refine x_aload_n C dL_law_680 rfl (q := 0) rfl ?_
                                        refine x_iload_n C dL_law_681 rfl (q := 3) rfl ?_
                                        refine x_iconst C (v := 2) dL_law_682 (by decide) ?_
                                        refine x_iadd C dL_law_683 ?_
                                        refine x_sld C hsc dL_law_684 h (fun k234 hk234 h => ?_)
                                        refine x_letI h (fun v235 h => ?_)
                                        obtain ⟨r237, hq236, h⟩ := bnd1_some h
                                        refine x_callV_i C (m_X11_message hq236) wv_L_97 (m_recv C.2.2.2 cl_X11 rfl) rfl (Nat.le_of_ble_eq_true rfl) ⟨⟨rfl, rfl⟩, Nat.le_of_ble_eq_true rfl, Nat.le_of_ble_eq_true rfl⟩ dL_law_685 rfl ?_
                                        refine x_icmp_eq C (tgt := 921) dL_law_688 (by decide) h (fun hc238 h => ?_) (fun hc238 h => ?_)
                                        · refine x_iincL C (w := 5) (L' := fun v239 => [(3, .int v239), (0, .ref (xsb G)), (1, .ref (xad G 0 0 0)), (2, .ref (xaM G 0))]) dL_law_921 (k := 3) rfl (by decide) (by decide) (fun _ => rfl) h (fun v239 h => ?_)
                                          refine x_goto C (tgt := 79) dL_law_924 (by decide) ?_
                                          exact x_sub [1, 2, 3, 0] rfl (ih _ _ _ h)
                                        · refine x_iconst C (v := 0) dL_law_691 (by decide) ?_
                                          exact absurd h (by decide)
                                      · refine x_ite h (fun hc240 h => ?_) (fun hc240 h => ?_)
                                        · refine x_tableIn C (off := 600) (tgt := 693) dL_law_93 17 hc240 (by decide) (by decide) rfl (by decide) ?_
                                          refine x_aload_n C dL_law_693 rfl (q := 1) rfl ?_
                                          refine x_aload_n C dL_law_694 rfl (q := 0) rfl ?_
                                          refine x_iload_n C dL_law_695 rfl (q := 3) rfl ?_
                                          refine x_iconst C (v := 1) dL_law_696 (by decide) ?_
                                          refine x_iadd C dL_law_697 ?_
                                          refine x_sld C hsc dL_law_698 h (fun k241 hk241 h => ?_)
                                          refine x_letI h (fun v242 h => ?_)
                                          refine x_aload_n C dL_law_699 rfl (q := 0) rfl ?_
                                          refine x_iload_n C dL_law_700 rfl (q := 3) rfl ?_
                                          refine x_iconst C (v := 2) dL_law_701 (by decide) ?_
                                          refine x_iadd C dL_law_702 ?_
                                          refine x_sld C hsc dL_law_703 h (fun k243 hk243 h => ?_)
                                          refine x_letI h (fun v244 h => ?_)
                                          obtain ⟨r246, hq245, h⟩ := bnd1_some h
                                          refine x_callV_i C (m_X10_lock hq245) wv_L_98 (x_recv C.2.2.2 cl_X10 (dm_0 z) rfl) rfl (Nat.le_of_ble_eq_true rfl) ⟨⟨rfl, rfl⟩, Nat.le_of_ble_eq_true rfl, Nat.le_of_ble_eq_true rfl⟩ dL_law_704 rfl ?_
                                          refine x_aload_n C dL_law_707 rfl (q := 2) rfl ?_
                                          refine x_aload_n C dL_law_708 rfl (q := 0) rfl ?_
                                          refine x_iload_n C dL_law_709 rfl (q := 3) rfl ?_
                                          refine x_iconst C (v := 1) dL_law_710 (by decide) ?_
                                          refine x_iadd C dL_law_711 ?_
                                          refine x_sld C hsc dL_law_712 h (fun k247 hk247 h => ?_)
                                          refine x_letI h (fun v248 h => ?_)
                                          refine x_aload_n C dL_law_713 rfl (q := 0) rfl ?_
                                          refine x_iload_n C dL_law_714 rfl (q := 3) rfl ?_
                                          refine x_iconst C (v := 2) dL_law_715 (by decide) ?_
                                          refine x_iadd C dL_law_716 ?_
                                          refine x_sld C hsc dL_law_717 h (fun k249 hk249 h => ?_)
                                          refine x_letI h (fun v250 h => ?_)
                                          obtain ⟨r252, hq251, h⟩ := bnd1_some h
                                          refine x_callV_i C (m_X11_lock hq251) wv_L_101 (m_recv C.2.2.2 cl_X11 rfl) rfl (Nat.le_of_ble_eq_true rfl) ⟨⟨rfl, rfl⟩, Nat.le_of_ble_eq_true rfl, Nat.le_of_ble_eq_true rfl⟩ dL_law_718 rfl ?_
                                          refine x_icmp_eq C (tgt := 921) dL_law_721 (by decide) h (fun hc253 h => ?_) (fun hc253 h => ?_)
                                          · refine x_iincL C (w := 5) (L' := fun v254 => [(3, .int v254), (0, .ref (xsb G)), (1, .ref (xad G 0 0 0)), (2, .ref (xaM G 0))]) dL_law_921 (k := 3) rfl (by decide) (by decide) (fun _ => rfl) h (fun v254 h => ?_)
                                            refine x_goto C (tgt := 79) dL_law_924 (by decide) ?_
                                            exact x_sub [1, 2, 3, 0] rfl (ih _ _ _ h)
                                          · refine x_iconst C (v := 0) dL_law_724 (by decide) ?_
                                            exact absurd h (by decide)
                                        · refine x_ite h (fun hc255 h => ?_) (fun hc255 h => ?_)
                                          · refine x_tableIn C (off := 633) (tgt := 726) dL_law_93 18 hc255 (by decide) (by decide) rfl (by decide) ?_
                                            refine x_aload_n C dL_law_726 rfl (q := 1) rfl ?_
                                            refine x_aload_n C dL_law_727 rfl (q := 0) rfl ?_
                                            refine x_iload_n C dL_law_728 rfl (q := 3) rfl ?_
                                            refine x_iconst C (v := 1) dL_law_729 (by decide) ?_
                                            refine x_iadd C dL_law_730 ?_
                                            refine x_sld C hsc dL_law_731 h (fun k256 hk256 h => ?_)
                                            refine x_letI h (fun v257 h => ?_)
                                            refine x_aload_n C dL_law_732 rfl (q := 0) rfl ?_
                                            refine x_iload_n C dL_law_733 rfl (q := 3) rfl ?_
                                            refine x_iconst C (v := 2) dL_law_734 (by decide) ?_
                                            refine x_iadd C dL_law_735 ?_
                                            refine x_sld C hsc dL_law_736 h (fun k258 hk258 h => ?_)
                                            refine x_letI h (fun v259 h => ?_)
                                            obtain ⟨r261, hq260, h⟩ := bnd1_some h
                                            refine x_callV_i C (m_X10_node hq260) wv_L_102 (x_recv C.2.2.2 cl_X10 (dm_0 z) rfl) rfl (Nat.le_of_ble_eq_true rfl) ⟨⟨rfl, rfl⟩, Nat.le_of_ble_eq_true rfl, Nat.le_of_ble_eq_true rfl⟩ dL_law_737 rfl ?_
                                            refine x_aload_n C dL_law_740 rfl (q := 2) rfl ?_
                                            refine x_aload_n C dL_law_741 rfl (q := 0) rfl ?_
                                            refine x_iload_n C dL_law_742 rfl (q := 3) rfl ?_
                                            refine x_iconst C (v := 1) dL_law_743 (by decide) ?_
                                            refine x_iadd C dL_law_744 ?_
                                            refine x_sld C hsc dL_law_745 h (fun k262 hk262 h => ?_)
                                            refine x_letI h (fun v263 h => ?_)
                                            refine x_aload_n C dL_law_746 rfl (q := 0) rfl ?_
                                            refine x_iload_n C dL_law_747 rfl (q := 3) rfl ?_
                                            refine x_iconst C (v := 2) dL_law_748 (by decide) ?_
                                            refine x_iadd C dL_law_749 ?_
                                            refine x_sld C hsc dL_law_750 h (fun k264 hk264 h => ?_)
                                            refine x_letI h (fun v265 h => ?_)
                                            obtain ⟨r267, hq266, h⟩ := bnd1_some h
                                            refine x_callV_i C (m_X11_node hq266) wv_L_105 (m_recv C.2.2.2 cl_X11 rfl) rfl (Nat.le_of_ble_eq_true rfl) ⟨⟨rfl, rfl⟩, Nat.le_of_ble_eq_true rfl, Nat.le_of_ble_eq_true rfl⟩ dL_law_751 rfl ?_
                                            refine x_icmp_eq C (tgt := 921) dL_law_754 (by decide) h (fun hc268 h => ?_) (fun hc268 h => ?_)
                                            · refine x_iincL C (w := 5) (L' := fun v269 => [(3, .int v269), (0, .ref (xsb G)), (1, .ref (xad G 0 0 0)), (2, .ref (xaM G 0))]) dL_law_921 (k := 3) rfl (by decide) (by decide) (fun _ => rfl) h (fun v269 h => ?_)
                                              refine x_goto C (tgt := 79) dL_law_924 (by decide) ?_
                                              exact x_sub [1, 2, 3, 0] rfl (ih _ _ _ h)
                                            · refine x_iconst C (v := 0) dL_law_757 (by decide) ?_
                                              exact absurd h (by decide)
                                          · refine x_ite h (fun hc270 h => ?_) (fun hc270 h => ?_)
                                            · refine x_tableIn C (off := 666) (tgt := 759) dL_law_93 19 hc270 (by decide) (by decide) rfl (by decide) ?_
                                              refine x_aload_n C dL_law_759 rfl (q := 1) rfl ?_
                                              refine x_aload_n C dL_law_760 rfl (q := 0) rfl ?_
                                              refine x_iload_n C dL_law_761 rfl (q := 3) rfl ?_
                                              refine x_iconst C (v := 1) dL_law_762 (by decide) ?_
                                              refine x_iadd C dL_law_763 ?_
                                              refine x_sld C hsc dL_law_764 h (fun k271 hk271 h => ?_)
                                              refine x_letI h (fun v272 h => ?_)
                                              refine x_aload_n C dL_law_765 rfl (q := 0) rfl ?_
                                              refine x_iload_n C dL_law_766 rfl (q := 3) rfl ?_
                                              refine x_iconst C (v := 2) dL_law_767 (by decide) ?_
                                              refine x_iadd C dL_law_768 ?_
                                              refine x_sld C hsc dL_law_769 h (fun k273 hk273 h => ?_)
                                              refine x_letI h (fun v274 h => ?_)
                                              refine x_aload_n C dL_law_770 rfl (q := 0) rfl ?_
                                              refine x_iload_n C dL_law_771 rfl (q := 3) rfl ?_
                                              refine x_iconst C (v := 3) dL_law_772 (by decide) ?_
                                              refine x_iadd C dL_law_773 ?_
                                              refine x_sld C hsc dL_law_774 h (fun k275 hk275 h => ?_)
                                              refine x_letI h (fun v276 h => ?_)
                                              obtain ⟨r278, hq277, h⟩ := bnd1_some h
                                              refine x_callV_i C (m_X10_entry hq277) wv_L_106 (x_recv C.2.2.2 cl_X10 (dm_0 z) rfl) rfl (Nat.le_of_ble_eq_true rfl) ⟨⟨rfl, rfl⟩, Nat.le_of_ble_eq_true rfl, Nat.le_of_ble_eq_true rfl⟩ dL_law_775 rfl ?_
                                              refine x_aload_n C dL_law_778 rfl (q := 2) rfl ?_
                                              refine x_aload_n C dL_law_779 rfl (q := 0) rfl ?_
                                              refine x_iload_n C dL_law_780 rfl (q := 3) rfl ?_
                                              refine x_iconst C (v := 1) dL_law_781 (by decide) ?_
                                              refine x_iadd C dL_law_782 ?_
                                              refine x_sld C hsc dL_law_783 h (fun k279 hk279 h => ?_)
                                              refine x_letI h (fun v280 h => ?_)
                                              refine x_aload_n C dL_law_784 rfl (q := 0) rfl ?_
                                              refine x_iload_n C dL_law_785 rfl (q := 3) rfl ?_
                                              refine x_iconst C (v := 2) dL_law_786 (by decide) ?_
                                              refine x_iadd C dL_law_787 ?_
                                              refine x_sld C hsc dL_law_788 h (fun k281 hk281 h => ?_)
                                              refine x_letI h (fun v282 h => ?_)
                                              refine x_aload_n C dL_law_789 rfl (q := 0) rfl ?_
                                              refine x_iload_n C dL_law_790 rfl (q := 3) rfl ?_
                                              refine x_iconst C (v := 3) dL_law_791 (by decide) ?_
                                              refine x_iadd C dL_law_792 ?_
                                              refine x_sld C hsc dL_law_793 h (fun k283 hk283 h => ?_)
                                              refine x_letI h (fun v284 h => ?_)
                                              obtain ⟨r286, hq285, h⟩ := bnd1_some h
                                              refine x_callV_i C (m_X11_entry hq285) wv_L_110 (m_recv C.2.2.2 cl_X11 rfl) rfl (Nat.le_of_ble_eq_true rfl) ⟨⟨rfl, rfl⟩, Nat.le_of_ble_eq_true rfl, Nat.le_of_ble_eq_true rfl⟩ dL_law_794 rfl ?_
                                              refine x_icmp_eq C (tgt := 921) dL_law_797 (by decide) h (fun hc287 h => ?_) (fun hc287 h => ?_)
                                              · refine x_iincL C (w := 5) (L' := fun v288 => [(3, .int v288), (0, .ref (xsb G)), (1, .ref (xad G 0 0 0)), (2, .ref (xaM G 0))]) dL_law_921 (k := 3) rfl (by decide) (by decide) (fun _ => rfl) h (fun v288 h => ?_)
                                                refine x_goto C (tgt := 79) dL_law_924 (by decide) ?_
                                                exact x_sub [1, 2, 3, 0] rfl (ih _ _ _ h)
                                              · refine x_iconst C (v := 0) dL_law_800 (by decide) ?_
                                                exact absurd h (by decide)
                                            · refine x_ite h (fun hc289 h => ?_) (fun hc289 h => ?_)
                                              · refine x_tableIn C (off := 709) (tgt := 802) dL_law_93 20 hc289 (by decide) (by decide) rfl (by decide) ?_
                                                refine x_aload_n C dL_law_802 rfl (q := 1) rfl ?_
                                                refine x_aload_n C dL_law_803 rfl (q := 0) rfl ?_
                                                refine x_iload_n C dL_law_804 rfl (q := 3) rfl ?_
                                                refine x_iconst C (v := 1) dL_law_805 (by decide) ?_
                                                refine x_iadd C dL_law_806 ?_
                                                refine x_sld C hsc dL_law_807 h (fun k290 hk290 h => ?_)
                                                refine x_letI h (fun v291 h => ?_)
                                                refine x_aload_n C dL_law_808 rfl (q := 0) rfl ?_
                                                refine x_iload_n C dL_law_809 rfl (q := 3) rfl ?_
                                                refine x_iconst C (v := 2) dL_law_810 (by decide) ?_
                                                refine x_iadd C dL_law_811 ?_
                                                refine x_sld C hsc dL_law_812 h (fun k292 hk292 h => ?_)
                                                refine x_letI h (fun v293 h => ?_)
                                                refine x_aload_n C dL_law_813 rfl (q := 0) rfl ?_
                                                refine x_iload_n C dL_law_814 rfl (q := 3) rfl ?_
                                                refine x_iconst C (v := 3) dL_law_815 (by decide) ?_
                                                refine x_iadd C dL_law_816 ?_
                                                refine x_sld C hsc dL_law_817 h (fun k294 hk294 h => ?_)
                                                refine x_letI h (fun v295 h => ?_)
                                                obtain ⟨r297, hq296, h⟩ := bnd1_some h
                                                refine x_callV_i C (m_X10_ballot hq296) wv_L_111 (x_recv C.2.2.2 cl_X10 (dm_0 z) rfl) rfl (Nat.le_of_ble_eq_true rfl) ⟨⟨rfl, rfl⟩, Nat.le_of_ble_eq_true rfl, Nat.le_of_ble_eq_true rfl⟩ dL_law_818 rfl ?_
                                                refine x_aload_n C dL_law_821 rfl (q := 2) rfl ?_
                                                refine x_aload_n C dL_law_822 rfl (q := 0) rfl ?_
                                                refine x_iload_n C dL_law_823 rfl (q := 3) rfl ?_
                                                refine x_iconst C (v := 1) dL_law_824 (by decide) ?_
                                                refine x_iadd C dL_law_825 ?_
                                                refine x_sld C hsc dL_law_826 h (fun k298 hk298 h => ?_)
                                                refine x_letI h (fun v299 h => ?_)
                                                refine x_aload_n C dL_law_827 rfl (q := 0) rfl ?_
                                                refine x_iload_n C dL_law_828 rfl (q := 3) rfl ?_
                                                refine x_iconst C (v := 2) dL_law_829 (by decide) ?_
                                                refine x_iadd C dL_law_830 ?_
                                                refine x_sld C hsc dL_law_831 h (fun k300 hk300 h => ?_)
                                                refine x_letI h (fun v301 h => ?_)
                                                refine x_aload_n C dL_law_832 rfl (q := 0) rfl ?_
                                                refine x_iload_n C dL_law_833 rfl (q := 3) rfl ?_
                                                refine x_iconst C (v := 3) dL_law_834 (by decide) ?_
                                                refine x_iadd C dL_law_835 ?_
                                                refine x_sld C hsc dL_law_836 h (fun k302 hk302 h => ?_)
                                                refine x_letI h (fun v303 h => ?_)
                                                obtain ⟨r305, hq304, h⟩ := bnd1_some h
                                                refine x_callV_i C (m_X11_ballot hq304) wv_L_114 (m_recv C.2.2.2 cl_X11 rfl) rfl (Nat.le_of_ble_eq_true rfl) ⟨⟨rfl, rfl⟩, Nat.le_of_ble_eq_true rfl, Nat.le_of_ble_eq_true rfl⟩ dL_law_837 rfl ?_
                                                refine x_icmp_eq C (tgt := 921) dL_law_840 (by decide) h (fun hc306 h => ?_) (fun hc306 h => ?_)
                                                · refine x_iincL C (w := 5) (L' := fun v307 => [(3, .int v307), (0, .ref (xsb G)), (1, .ref (xad G 0 0 0)), (2, .ref (xaM G 0))]) dL_law_921 (k := 3) rfl (by decide) (by decide) (fun _ => rfl) h (fun v307 h => ?_)
                                                  refine x_goto C (tgt := 79) dL_law_924 (by decide) ?_
                                                  exact x_sub [1, 2, 3, 0] rfl (ih _ _ _ h)
                                                · refine x_iconst C (v := 0) dL_law_843 (by decide) ?_
                                                  exact absurd h (by decide)
                                              · refine x_ite h (fun hc308 h => ?_) (fun hc308 h => ?_)
                                                · refine x_tableIn C (off := 752) (tgt := 845) dL_law_93 21 hc308 (by decide) (by decide) rfl (by decide) ?_
                                                  refine x_aload_n C dL_law_845 rfl (q := 1) rfl ?_
                                                  refine x_aload_n C dL_law_846 rfl (q := 0) rfl ?_
                                                  refine x_iload_n C dL_law_847 rfl (q := 3) rfl ?_
                                                  refine x_iconst C (v := 1) dL_law_848 (by decide) ?_
                                                  refine x_iadd C dL_law_849 ?_
                                                  refine x_sld C hsc dL_law_850 h (fun k309 hk309 h => ?_)
                                                  refine x_letI h (fun v310 h => ?_)
                                                  refine x_aload_n C dL_law_851 rfl (q := 0) rfl ?_
                                                  refine x_iload_n C dL_law_852 rfl (q := 3) rfl ?_
                                                  refine x_iconst C (v := 2) dL_law_853 (by decide) ?_
                                                  refine x_iadd C dL_law_854 ?_
                                                  refine x_sld C hsc dL_law_855 h (fun k311 hk311 h => ?_)
                                                  refine x_letI h (fun v312 h => ?_)
                                                  refine x_aload_n C dL_law_856 rfl (q := 0) rfl ?_
                                                  refine x_iload_n C dL_law_857 rfl (q := 3) rfl ?_
                                                  refine x_iconst C (v := 3) dL_law_858 (by decide) ?_
                                                  refine x_iadd C dL_law_859 ?_
                                                  refine x_sld C hsc dL_law_860 h (fun k313 hk313 h => ?_)
                                                  refine x_letI h (fun v314 h => ?_)
                                                  refine x_aload_n C dL_law_861 rfl (q := 0) rfl ?_
                                                  refine x_iload_n C dL_law_862 rfl (q := 3) rfl ?_
                                                  refine x_iconst C (v := 4) dL_law_863 (by decide) ?_
                                                  refine x_iadd C dL_law_864 ?_
                                                  refine x_sld C hsc dL_law_865 h (fun k315 hk315 h => ?_)
                                                  refine x_letI h (fun v316 h => ?_)
                                                  obtain ⟨r318, hq317, h⟩ := bnd1_some h
                                                  refine x_callV_i C (m_X10_accepted hq317) wv_L_115 (x_recv C.2.2.2 cl_X10 (dm_0 z) rfl) rfl (Nat.le_of_ble_eq_true rfl) ⟨⟨rfl, rfl⟩, Nat.le_of_ble_eq_true rfl, Nat.le_of_ble_eq_true rfl⟩ dL_law_866 rfl ?_
                                                  refine x_aload_n C dL_law_869 rfl (q := 2) rfl ?_
                                                  refine x_aload_n C dL_law_870 rfl (q := 0) rfl ?_
                                                  refine x_iload_n C dL_law_871 rfl (q := 3) rfl ?_
                                                  refine x_iconst C (v := 1) dL_law_872 (by decide) ?_
                                                  refine x_iadd C dL_law_873 ?_
                                                  refine x_sld C hsc dL_law_874 h (fun k319 hk319 h => ?_)
                                                  refine x_letI h (fun v320 h => ?_)
                                                  refine x_aload_n C dL_law_875 rfl (q := 0) rfl ?_
                                                  refine x_iload_n C dL_law_876 rfl (q := 3) rfl ?_
                                                  refine x_iconst C (v := 2) dL_law_877 (by decide) ?_
                                                  refine x_iadd C dL_law_878 ?_
                                                  refine x_sld C hsc dL_law_879 h (fun k321 hk321 h => ?_)
                                                  refine x_letI h (fun v322 h => ?_)
                                                  refine x_aload_n C dL_law_880 rfl (q := 0) rfl ?_
                                                  refine x_iload_n C dL_law_881 rfl (q := 3) rfl ?_
                                                  refine x_iconst C (v := 3) dL_law_882 (by decide) ?_
                                                  refine x_iadd C dL_law_883 ?_
                                                  refine x_sld C hsc dL_law_884 h (fun k323 hk323 h => ?_)
                                                  refine x_letI h (fun v324 h => ?_)
                                                  refine x_aload_n C dL_law_885 rfl (q := 0) rfl ?_
                                                  refine x_iload_n C dL_law_886 rfl (q := 3) rfl ?_
                                                  refine x_iconst C (v := 4) dL_law_887 (by decide) ?_
                                                  refine x_iadd C dL_law_888 ?_
                                                  refine x_sld C hsc dL_law_889 h (fun k325 hk325 h => ?_)
                                                  refine x_letI h (fun v326 h => ?_)
                                                  obtain ⟨r328, hq327, h⟩ := bnd1_some h
                                                  refine x_callV_i C (m_X11_accepted hq327) wv_L_119 (m_recv C.2.2.2 cl_X11 rfl) rfl (Nat.le_of_ble_eq_true rfl) ⟨⟨rfl, rfl⟩, Nat.le_of_ble_eq_true rfl, Nat.le_of_ble_eq_true rfl⟩ dL_law_890 rfl ?_
                                                  refine x_icmp_eq C (tgt := 921) dL_law_893 (by decide) h (fun hc329 h => ?_) (fun hc329 h => ?_)
                                                  · refine x_iincL C (w := 5) (L' := fun v330 => [(3, .int v330), (0, .ref (xsb G)), (1, .ref (xad G 0 0 0)), (2, .ref (xaM G 0))]) dL_law_921 (k := 3) rfl (by decide) (by decide) (fun _ => rfl) h (fun v330 h => ?_)
                                                    refine x_goto C (tgt := 79) dL_law_924 (by decide) ?_
                                                    exact x_sub [1, 2, 3, 0] rfl (ih _ _ _ h)
                                                  · refine x_iconst C (v := 0) dL_law_896 (by decide) ?_
                                                    exact absurd h (by decide)
                                                · refine x_ite h (fun hc331 h => ?_) (fun hc331 h => ?_)
                                                  · refine x_tableIn C (off := 805) (tgt := 898) dL_law_93 22 hc331 (by decide) (by decide) rfl (by decide) ?_
                                                    refine x_aload_n C dL_law_898 rfl (q := 1) rfl ?_
                                                    refine x_aload_n C dL_law_899 rfl (q := 0) rfl ?_
                                                    refine x_iload_n C dL_law_900 rfl (q := 3) rfl ?_
                                                    refine x_iconst C (v := 1) dL_law_901 (by decide) ?_
                                                    refine x_iadd C dL_law_902 ?_
                                                    refine x_sld C hsc dL_law_903 h (fun k332 hk332 h => ?_)
                                                    refine x_letI h (fun v333 h => ?_)
                                                    obtain ⟨r335, hq334, h⟩ := bnd1_some h
                                                    refine x_callV_i C (m_X10_count hq334) wv_L_120 (x_recv C.2.2.2 cl_X10 (dm_0 z) rfl) rfl (Nat.le_of_ble_eq_true rfl) ⟨⟨rfl, rfl⟩, Nat.le_of_ble_eq_true rfl, Nat.le_of_ble_eq_true rfl⟩ dL_law_904 rfl ?_
                                                    refine x_aload_n C dL_law_907 rfl (q := 2) rfl ?_
                                                    refine x_aload_n C dL_law_908 rfl (q := 0) rfl ?_
                                                    refine x_iload_n C dL_law_909 rfl (q := 3) rfl ?_
                                                    refine x_iconst C (v := 1) dL_law_910 (by decide) ?_
                                                    refine x_iadd C dL_law_911 ?_
                                                    refine x_sld C hsc dL_law_912 h (fun k336 hk336 h => ?_)
                                                    refine x_letI h (fun v337 h => ?_)
                                                    obtain ⟨r339, hq338, h⟩ := bnd1_some h
                                                    refine x_callV_i C (m_X11_count hq338) wv_L_123 (m_recv C.2.2.2 cl_X11 rfl) rfl (Nat.le_of_ble_eq_true rfl) ⟨⟨rfl, rfl⟩, Nat.le_of_ble_eq_true rfl, Nat.le_of_ble_eq_true rfl⟩ dL_law_913 rfl ?_
                                                    refine x_icmp_eq C (tgt := 921) dL_law_916 (by decide) h (fun hc340 h => ?_) (fun hc340 h => ?_)
                                                    · refine x_iincL C (w := 5) (L' := fun v341 => [(3, .int v341), (0, .ref (xsb G)), (1, .ref (xad G 0 0 0)), (2, .ref (xaM G 0))]) dL_law_921 (k := 3) rfl (by decide) (by decide) (fun _ => rfl) h (fun v341 h => ?_)
                                                      refine x_goto C (tgt := 79) dL_law_924 (by decide) ?_
                                                      exact x_sub [1, 2, 3, 0] rfl (ih _ _ _ h)
                                                    · refine x_iconst C (v := 0) dL_law_919 (by decide) ?_
                                                      exact absurd h (by decide)
                                                  · refine x_tableOut C (tgt := 921) dL_law_93 (by have a0 := xI_ne (k := 0) 0 (by decide) hc5; have a1 := xI_ne (k := 1) 1 (by decide) hc18; have a2 := xI_ne (k := 2) 2 (by decide) hc35; have a3 := xI_ne (k := 3) 3 (by decide) hc42; have a4 := xI_ne (k := 4) 4 (by decide) hc67; have a5 := xI_ne (k := 5) 5 (by decide) hc80; have a6 := xI_ne (k := 6) 6 (by decide) hc93; have a7 := xI_ne (k := 7) 7 (by decide) hc104; have a8 := xI_ne (k := 8) 8 (by decide) hc115; have a9 := xI_ne (k := 9) 9 (by decide) hc128; have a10 := xI_ne (k := 10) 10 (by decide) hc141; have a11 := xI_ne (k := 11) 11 (by decide) hc154; have a12 := xI_ne (k := 12) 12 (by decide) hc171; have a13 := xI_ne (k := 13) 13 (by decide) hc184; have a14 := xI_ne (k := 14) 14 (by decide) hc197; have a15 := xI_ne (k := 15) 15 (by decide) hc204; have a16 := xI_ne (k := 16) 16 (by decide) hc225; have a17 := xI_ne (k := 17) 17 (by decide) hc240; have a18 := xI_ne (k := 18) 18 (by decide) hc255; have a19 := xI_ne (k := 19) 19 (by decide) hc270; have a20 := xI_ne (k := 20) 20 (by decide) hc289; have a21 := xI_ne (k := 21) 21 (by decide) hc308; have a22 := xI_ne (k := 22) 22 (by decide) hc331; omega) (by decide) ?_
                                                    refine x_iincL C (w := 5) (L' := fun v342 => [(3, .int v342), (0, .ref (xsb G)), (1, .ref (xad G 0 0 0)), (2, .ref (xaM G 0))]) dL_law_921 (k := 3) rfl (by decide) (by decide) (fun _ => rfl) h (fun v342 h => ?_)
                                                    refine x_goto C (tgt := 79) dL_law_924 (by decide) ?_
                                                    exact x_sub [1, 2, 3, 0] rfl (ih _ _ _ h)
